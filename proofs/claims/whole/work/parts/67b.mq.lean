/-! ===== new int[2][K]: the one instruction of the class that the kit's rows have no law of, out of the model's text: two rows, the loop laid open ===== -/
def mq_o (cA : ClassId) : Cell := { cls := cA, slots := Array.replicate 2 .null }
def mq_r (cI : ClassId) (K : Nat) : Cell := { cls := cI, slots := Array.replicate K (.int 0) }
def mq_a (cA : ClassId) (h : Nat) : Cell := (mq_o cA).setSlot 0 (.ref (h + 1))
def mq_b (cA : ClassId) (h : Nat) : Cell := (mq_a cA h).setSlot 1 (.ref (h + 2))
/-- the outer array, its first row made and put in place -/
def mq_A (S : State) (cA cI : ClassId) (K : Nat) : State := ((S.pushCell (mq_o cA)).pushCell (mq_r cI K)).setCell S.heap.size (mq_a cA S.heap.size)
/-- both rows -/
def mq_B (S : State) (cA cI : ClassId) (K : Nat) : State := ((mq_A S cA cI K).pushCell (mq_r cI K)).setCell S.heap.size (mq_b cA S.heap.size)
theorem mq_heapA (S : State) (cA cI : ClassId) (K : Nat) : (mq_A S cA cI K).heap = (S.heap.push (mq_a cA S.heap.size)).push (mq_r cI K) := by
  show ((S.heap.push (mq_o cA)).push (mq_r cI K)).setIfInBounds S.heap.size (mq_a cA S.heap.size) = _
  refine Array.ext_getElem? fun i => ?_
  simp only [Array.getElem?_setIfInBounds, Array.getElem?_push, Array.size_push]
  by_cases h : S.heap.size = i
  · subst h; simp; exact Nat.lt_succ_of_lt (Nat.lt_succ_self _)
  · have h2 : ¬ i = S.heap.size := fun q => h q.symm
    simp [h, h2]
theorem mq_heapB (S : State) (cA cI : ClassId) (K : Nat) : (mq_B S cA cI K).heap = ((S.heap.push (mq_b cA S.heap.size)).push (mq_r cI K)).push (mq_r cI K) := by
  show ((mq_A S cA cI K).heap.push (mq_r cI K)).setIfInBounds S.heap.size (mq_b cA S.heap.size) = _
  rw [mq_heapA]
  refine Array.ext_getElem? fun i => ?_
  simp only [Array.getElem?_setIfInBounds, Array.getElem?_push, Array.size_push]
  by_cases h : S.heap.size = i
  · subst h; simp; rw [if_pos (by omega), if_neg (by omega)]
  · have h2 : ¬ i = S.heap.size := fun q => h q.symm
    simp [h, h2]
theorem mq_top (S : State) (f : JFrame) (cA cI : ClassId) (K : Nat) : mq_B (S.setTop f) cA cI K = (mq_B S cA cI K).setTop f := rfl
section MqWp
variable {E : CtlPost} {e : Env} {d : Bool} {acts : List Action} {S : State}
theorem mq_row {cI cc : ClassId} {kI : Class} {n : Int32} {K : Nat} (h1 : S.vm.classes[cI]? = some kI) (h2 : kI.kind = .array cc .int) (hn : ¬ n < 0) (hK : n.toNatClampNeg = K) (hl : K ≤ e.platform.arrayLengthLimit) (hb : K * 4 ≤ e.platform.maxHeapBytes) (hc : S.heap.size + 1 ≤ e.platform.maxCells) (hs : S.slotsUsed + K ≤ e.platform.maxSlots)
    {Q : Addr → Pre} (hq : ∀ acts', Q S.heap.size d acts' (S.pushCell (mq_r cI K))) : wp (multianewarray.make cI [n]) Q E e d acts S := by
  rw [multianewarray.make]
  simp only [wp_bind', W.ite, hn, if_false, wp_pure', W.theClass, h1, h2, Option.some.injEq, exists_eq_left', hK]
  exact W.newArray_of h1 h2 (Nat.not_lt.mpr hl) (Nat.not_lt.mpr hb) hc hs rfl hq
theorem mq_put {x : Nat} {cell : Cell} {cA comp : ClassId} {kA : Class} {t : FieldType} {v i : Nat} (hx : S.heap[x]? = some cell) (hcl : cell.cls = cA) (hvm : cell.vm = .none) (h1 : S.vm.classes[cA]? = some kA) (h2 : kA.kind = .array comp (.array t)) (hi : i < cell.slots.size)
    {Q : Unit → Pre} (hq : ∀ acts', Q () true acts' (S.setCell x (cell.setSlot i (.ref v)))) : wp (Jvm.writeLoc x i (.ref v)) Q E e d acts S := by
  rw [W.writeLoc]
  refine ⟨cell, hx, (by rw [hvm]; intro h; cases h), hi, ?_, hq _⟩
  rw [hcl, hvm]
  simp [State.fitsSlot, State.slotType?, h1, h2, fits]
theorem mq_make {cA cI cc : ClassId} {kA kI : Class} {n : Int32} {K : Nat} (a1 : S.vm.classes[cA]? = some kA) (a2 : kA.kind = .array cI (.array .int)) (i1 : S.vm.classes[cI]? = some kI) (i2 : kI.kind = .array cc .int) (hn : ¬ n < 0) (hK : n.toNatClampNeg = K) (hl : K ≤ e.platform.arrayLengthLimit ∧ 2 ≤ e.platform.arrayLengthLimit) (hb : K * 4 ≤ e.platform.maxHeapBytes ∧ 8 ≤ e.platform.maxHeapBytes) (hc : S.heap.size + 3 ≤ e.platform.maxCells) (hs : S.slotsUsed + (2 + 2 * K) ≤ e.platform.maxSlots)
    {Q : Addr → Pre} (hq : ∀ d' acts', Q S.heap.size d' acts' (mq_B S cA cI K)) : wp (multianewarray.make cA [2, n]) Q E e d acts S := by
  rw [multianewarray.make]
  have h2 : ¬ (2 : Int32) < 0 := by decide
  have h3 : ((2 : Int32) == 0) = false := by decide
  have h4 : (2 : Int32).toNatClampNeg = 2 := by decide
  simp only [wp_bind', W.ite, h2, if_false, wp_pure', W.theClass, a1, a2, Option.some.injEq, exists_eq_left', h3, h4, Bool.false_eq_true]
  refine W.newArray_of a1 a2 (Nat.not_lt.mpr hl.2) (Nat.not_lt.mpr hb.2) (by omega) (by omega) rfl (fun acts1 => ?_)
  rw [wp_bind', Std.Legacy.Range.forIn_eq_forIn_range']
  show wp (forIn [0, 1] PUnit.unit _) _ E e d acts1 (S.pushCell (mq_o cA))
  simp only [List.forIn_cons, List.forIn_nil, wp_bind', wp_pure']
  have z0 : (S.pushCell (mq_o cA)).heap.size = S.heap.size + 1 := Array.size_push _
  refine mq_row (S := S.pushCell (mq_o cA)) i1 i2 hn hK hl.1 hb.1 (by rw [z0]; omega) (by show S.slotsUsed + (Array.replicate 2 _).size + K ≤ _; rw [Array.size_replicate]; omega) (fun acts2 => ?_)
  rw [z0, wp_bind']
  refine mq_put (S := (S.pushCell (mq_o cA)).pushCell (mq_r cI K)) (cell := mq_o cA) (i := 0) (by show ((S.heap.push (mq_o cA)).push _)[S.heap.size]? = _; simp [Array.getElem?_push]) rfl rfl a1 a2 (show 0 < 2 by decide) (fun acts3 => ?_)
  simp only [wp_bind', wp_pure']
  show wp (multianewarray.make cI [n]) _ E e true acts3 (mq_A S cA cI K)
  have z1 : (mq_A S cA cI K).heap.size = S.heap.size + 2 := by rw [mq_heapA]; simp
  refine mq_row (S := mq_A S cA cI K) i1 i2 hn hK hl.1 hb.1 (by rw [z1]; omega) (by show S.slotsUsed + (Array.replicate 2 _).size + (Array.replicate K _).size + K ≤ _; rw [Array.size_replicate, Array.size_replicate]; omega) (fun acts4 => ?_)
  rw [z1, wp_bind']
  refine mq_put (S := (mq_A S cA cI K).pushCell (mq_r cI K)) (cell := mq_a cA S.heap.size) (by show ((mq_A S cA cI K).heap.push _)[S.heap.size]? = _; rw [mq_heapA]; simp [Array.getElem?_push]; omega) rfl rfl a1 a2 (by simp [mq_a, mq_o, Cell.setSlot]) (fun acts5 => ?_)
  simp only [wp_pure']
  exact hq _ _
end MqWp
section MqStep
variable {p : Program} {l : Launch} {e : Env} {R : Room} {s : State} {m : MethodId} {args : Array Value} {below : List Frame} {meth : Method} {c : Code} {T : State} {locs : List Loc} {cells slots : Nat}
theorem mq_stand (X : Stand p l e R s m args below meth c T locs cells slots) (cA cI : ClassId) (K : Nat) : Stand p l e R s m args below meth c (mq_B T cA cI K) locs (cells + 3) (slots + (2 + 2 * K)) := by
  have x1 := (X.pushed (mq_o cA)).pushed (mq_r cI K)
  have x2 := x1.stored (a := T.heap.size) (cell := mq_o cA) (by show ((T.heap.push (mq_o cA)).push _)[T.heap.size]? = _; simp [Array.getElem?_push]) 0 (.ref (T.heap.size + 1))
  have x3 : Stand p l e R s m args below meth c (mq_A T cA cI K) _ _ _ := x2
  have x4 := (x3.pushed (mq_r cI K)).stored (a := T.heap.size) (cell := mq_a cA T.heap.size) (by show ((mq_A T cA cI K).heap.push _)[T.heap.size]? = _; rw [mq_heapA]; simp [Array.getElem?_push]; omega) 1 (.ref (T.heap.size + 2))
  have x5 : Stand p l e R s m args below meth c (mq_B T cA cI K) _ _ _ := x4
  have hg : s.heap.size ≤ T.heap.size := X.heapGrown
  have x6 := (x5.dropFresh (fun x hx => by rw [List.mem_singleton.mp hx]; exact hg)).dropFresh (fun x hx => by rw [List.mem_singleton.mp hx]; exact hg)
  have e1 : (mq_o cA).slots.size = 2 := rfl
  have e2 : (mq_r cI K).slots.size = K := Array.size_replicate
  rw [e1, e2] at x6
  rw [show cells + 3 = cells + 1 + 1 + 1 by omega, show slots + (2 + 2 * K) = slots + 2 + K + K by omega]
  exact x6
theorem mq_step (X : Stand p l e R s m args below meth c T locs cells slots) (hexec : p.tables.exec = Jvm.exec) {own : String} {index K : Nat} {args1 args2 : Array Value}
    (hown : s.vm.findClass own = some m.cls) (hlink : (Cond.classLink own index "[[I").before args s = true) (hover : (Cond.arrayOver (.array .int)).before args1 s = true) (harr : (Cond.arrayClass .int).before args2 s = true)
    {g : JFrame} (hg : g.method = m) (hd : decode c.code g.pc = .ok (.multianewarray index 2, 4)) {n : Int32} {rest : List Value} (hst : g.stack = .int n :: .int 2 :: rest) (hn : ¬ n < 0) (hK : n.toNatClampNeg = K) (hb : K < 100000) (hcells : cells + 3 ≤ R.cells) (hslots : slots + (2 + 2 * K) ≤ R.slots) :
    ∃ (vm₁ : Vm) (cA cI : ClassId), s.vm.findClass "[[I" = some cA ∧ s.vm.findClass "[I" = some cI ∧ Stand p l e R s m args below meth c (mq_B (T.setVm vm₁) cA cI K) locs (cells + 3) (slots + (2 + 2 * K)) ∧
      ∀ target, Steps p.tables e below ((mq_B (T.setVm vm₁) cA cI K).setTop { g with pc := g.pc + 4, stack := .ref T.heap.size :: rest }) target → Steps p.tables e below (T.setTop g) target := by
  subst hg
  obtain ⟨cI, cA, kA, f1, -, a1, a2, f2⟩ := arrayOverA_spec (t := .int) hover
  obtain ⟨cI', kI, cc, f3, i1, i2⟩ := Cond.arrayClass_spec harr
  have e1 : cI' = cI := Option.some.inj (f3.symm.trans f1)
  subst e1
  obtain ⟨cA', f4, hcl⟩ := Cond.classLink_spec hown hlink e.platform (by rw [X.admits.platform])
  have e2 : cA' = cA := Option.some.inj (f4.symm.trans f2)
  subst e2
  obtain ⟨gv, hW, -⟩ := State.classEntry (e := e) X.warmed hcl
  generalize T.vm.noted g.method.cls index (.cls cA') = vm₁ at gv hW
  obtain ⟨kA₁, b1, q1⟩ := hW.alike.2.2 _ _ a1
  obtain ⟨kI₁, j1, q2⟩ := hW.alike.2.2 _ _ i1
  have b2 : kA₁.kind = .array cI' (.array .int) := by rw [q1]; exact a2
  have j2 : kI₁.kind = .array cc .int := by rw [q2]; exact i2
  have Y := mq_stand (X.noted hW) cA' cI' K
  obtain ⟨r1, r2⟩ := X.roomAbove hcells hslots
  have l1 := Launch.admits_arrayLengthLimit X.admits
  have l2 := Launch.admits_maxHeapBytes X.admits
  refine ⟨vm₁, cA', cI', f2, f1, Y, fun target hgo => ?_⟩
  jvm_step X.here [hexec, hd]
  simp only [multianewarray.sem, wp_bind', W.resolveClassAt_links (State.method?_setTop g X.here.top) gv]
  refine (popN_top (s := T.setVm vm₁) (f := g) (args := [.int 2, .int n]) (rest := rest) X.here.top hst).mpr ?_
  simp only [List.mapM_cons, List.mapM_nil, wp_bind', wp_pure']
  refine mq_make (S := (T.setVm vm₁).setTop { g with stack := rest }) (kA := kA₁) (kI := kI₁) b1 b2 j1 j2 hn hK ⟨by rw [l1]; omega, by rw [l1]; omega⟩ ⟨by rw [l2]; omega, by rw [l2]; omega⟩ r1 r2 (fun d1 acts1 => ?_)
  rw [mq_top]
  simp only [wp_bind', W.mark, W.pushRef, State.topJava?_setTop' _ Y.here.top, Option.some.injEq, exists_eq_left', State.setTop_setTop, State.heap_setTop]
  intro acts
  simp [jvm, Y.here.top]
  exact hgo
end MqStep
