/-! ===== a throw that comes out of a call, caught by the method's one row; the row's class may be asked for the first time ===== -/
theorem mq_catch1 {e : Env} {S : State} {a : Addr} {f : JFrame} {r : List Frame} {meth : Method} {code : Code} {x : ExceptionTableEntry} {c : ClassId} {cell : Cell} {vm' : Vm} (hm : S.vm.method? f.method = some meth) (hc : meth.code = some code) (ht : code.exceptionTable.toList = [x]) (hx : covers x f.pc = true) (h0 : x.catchType ≠ 0)
    (hg : (Jvm.resolveClass f.method.cls x.catchType).Gives e.toSetting S.vm (.ok c) vm') (hsz : vm'.classes.size ≤ S.vm.classes.size) (hcell : S.heap[a]? = some cell) (hobj : ∀ k, cell.vm ≠ .statics k) (hk : ∃ k, vm'.classes[cell.cls]? = some k) (hcl : ∃ k, vm'.classes[c]? = some k) (hfit : vm'.assignable cell.cls c = true) :
    (stepThrowing e S a (.java f :: r)).1 = (S.setVm vm').setFrames (.java { f with pc := x.handlerPc, stack := [.ref a] } :: r) := by
  obtain ⟨q1, q2⟩ := hg.op (op := VmOp.resolveClass f.method.cls x.catchType) rfl
  simp only [covers] at hx
  have hf : ∀ (Q : Handler → Pre) (E : CtlPost) (d : Bool) (acts : List Action), wp (findHandler f a) Q E e d acts S ↔ Q (.found x.handlerPc) d acts (S.setVm vm') := fun Q E d acts => by
    rw [W.findHandler_eq hm hc, ht]
    simp [findHandler.go, hx, h0, q1, q2, hsz, hcell, hobj, hk, hcl, hfit, VmOp.dirties, VmOp.acts]
  simp only [stepThrowing, searchFrame, vmDo]
  generalize hr : Sem.go _ e false [] S = res
  obtain ⟨as, rfl, -⟩ := Sem.eq_ok_of hr (a := Handler.found x.handlerPc) (s' := S.setVm vm') (acts' := []) (by simp [hf _ _ _ _])
  rfl
section MqCaught
variable {p : Program} {l : Launch} {e : Env} {R : Room} {s : State} {m : MethodId} {args : Array Value} {below : List Frame} {meth : Method} {c : Code} {T : State} {locs : List Loc} {cells slots : Nat}
theorem mq_caught (X : Stand p l e R s m args below meth c T locs cells slots) (a : Addr) {g : JFrame} (hg : g.method = m) {x : ExceptionTableEntry} (ht : c.exceptionTable.toList = [x]) (hx : covers x g.pc = true) (h0 : x.catchType ≠ 0) {own name E : String} {cell : Cell} (hcell : T.heap[a]? = some cell) (hv : cell.vm = .none) (hE : s.vm.findClass E = some cell.cls)
    (hown : s.vm.findClass own = some m.cls) (hlink : (Cond.classLink own x.catchType name).before args s = true) (hcast : (Cond.castable E name).before args s = true) :
    ∃ vm', Stand p l e R s m args below meth c (T.setVm vm') locs cells slots ∧ Steps p.tables e below ((T.setTop g).pushFrame (.throwing a)) ((T.setVm vm').setTop { g with pc := x.handlerPc, stack := [.ref a] }) := by
  subst hg
  obtain ⟨c3, cT, f3, f4, hasg⟩ := Cond.castable_spec hcast
  have e3 : c3 = cell.cls := Option.some.inj (f3.symm.trans hE)
  subst e3
  obtain ⟨cT', f5, hcl⟩ := Cond.classLink_spec hown hlink e.platform (by rw [X.admits.platform])
  have e4 : cT' = cT := Option.some.inj (f5.symm.trans f4)
  subst e4
  obtain ⟨gv, hW, -⟩ := State.classEntry (e := e) X.warmed hcl
  obtain ⟨k1, b1⟩ := Vm.classAt_of_findClass f3
  obtain ⟨k2, b2⟩ := Vm.classAt_of_findClass f4
  obtain ⟨k1', b1', -⟩ := hW.alike.2.2 _ _ b1
  obtain ⟨k2', b2', -⟩ := hW.alike.2.2 _ _ b2
  have Y := X.noted hW
  have hA : T.vm.Alike (T.vm.noted g.method.cls x.catchType (.cls cT')) := X.warmed.alike.symm.trans hW.alike
  refine ⟨_, Y, ?_⟩
  obtain ⟨hgo, hw⟩ := X.here.throwing (g := g) a
  refine Steps.head hgo hw ?_
  rw [stepThread_throwing (frames_entered X.here.top _), mq_catch1 (S := (T.setTop g).pushFrame (.throwing a)) (meth := meth) (code := c) (c := cT') (cell := cell) X.method' X.code ht hx h0 gv (show (T.vm.noted g.method.cls x.catchType (.cls cT')).classes.size ≤ T.vm.classes.size by no_record) hcell (fun k h => by rw [hv] at h; cases h) ⟨k1', b1'⟩ ⟨k2', b2'⟩ (by rw [hW.alike.assignable]; exact hasg)]
  generalize T.vm.noted g.method.cls x.catchType (.cls cT') = vm'
  obtain ⟨g₀, hg⟩ := Option.isSome_iff_exists.mp X.here.top
  obtain ⟨r, hr⟩ := State.topJava?_eq_some.mp hg
  have hr' : (T.setVm vm').frames = .java g₀ :: r := hr
  rw [State.setTop_of_frames _ hr', hr, List.tail_cons]
  rw [show (((T.setTop g).pushFrame (.throwing a)).setVm vm').setFrames (.java { g with pc := x.handlerPc, stack := [.ref a] } :: r) = (T.setVm vm').setFrames (.java { g with pc := x.handlerPc, stack := [.ref a] } :: r) from ?_]
  · exact Steps.refl _
  · rw [State.pushFrame, State.setTop_of_frames _ hr]
    show ((((T.setVm vm').setFrames _).setFrames _).setFrames _) = _
    rw [State.setFrames_setFrames, State.setFrames_setFrames]
end MqCaught
