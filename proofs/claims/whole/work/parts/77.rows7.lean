/-! ===== the law's own rows: its script, equal answers, its end ===== -/
def R_law : String := "SamplePacksLaw"
def lw_P (b : Addr) (xs : List Int32) (args : Array Value) (s : State) : Prop := args = #[.ref b] ∧ s.IntsAt b xs ∧ xs.length ≤ 2560 ∧ (Jvm.Cond.and given_1 narrow_1).before args s = true
def lw_Q (_ : Array Value) (s : State) (o : Outcome) (t : State) : Prop := o = .returned (some (.int 1)) ∧ Framed s o t [] 603072 7194729
def lw_Z (below : List Frame) (a : Array Value) (s : State) : State → Prop := fun t => ∃ o, t.status = .running ∧ Ended t below o ∧ lw_Q a s o t
theorem lw_ret {p : Program} {l : Launch} {e : Env} {s : State} {m : MethodId} {below : List Frame} {meth : Method} {c : Code} {b : Nat} (hx : p.tables.exec = Jvm.exec) (hb : c.code = code) (hr : meth.sig.returnType = ret) (hlocks : meth.locks = false) {pc : Nat} {H : Heap} {ls : Array Slot} (hdg : decode code pc = .ok (.ireturn, 1)) : W p l e room_1 s m #[Value.ref b] below meth c H [] 603072 7194729 (lw_Z below #[Value.ref b] s) (F0 m pc ls [.int 1]) := by
  intro T hT X
  obtain ⟨fs, hret, hrun, hended, hW, hframe⟩ := X.leave (v := some (.int 1)) (hlocks := hlocks) (fun h => by rw [hr] at h; cases h)
  have hmeth' : T.vm.method? m = some meth := X.method'
  refine ⟨T.setFrames fs, ?_, .returned (some (.int 1)), hrun, hended, rfl, ⟨_, rfl⟩, hW, hframe⟩
  jvm_step X.here [X.here.top, hx, hb, hdg, hmeth', hr, ret, narrow_b1]
  (try refine ⟨rfl, ?_⟩); (try refine ⟨rfl, ?_⟩)
  first | (intro acts; rw [hret _ acts rfl rfl rfl]) | rw [hret _ _ rfl rfl rfl]
  exact Steps.refl _
def lw_At (p : Program) (s : State) (m : MethodId) (meth : Method) (c : Code) (b L : Nat) (xs : Nat → Int32) : Prop :=
  p.tables.exec = Jvm.exec ∧ c.code = code ∧ meth.sig.returnType = ret ∧ c.maxLocals = 7 ∧ s.vm.findClass R_law = some m.cls ∧ (∀ w ∈ lw_tbl, w.before #[Value.ref b] s = true) ∧ va_X b L xs s s.heap ∧ b < s.heap.size ∧ meth.locks = false ∧ (Jvm.Cond.and given_1 narrow_1).before #[Value.ref b] s = true
def scOk (x : XX) (b L : Nat) (sf : Int → Int) : Prop := va_X b L (fun j : Nat => iI (sf (j : Int))) x.s x.s.heap ∧ b < x.s.heap.size ∧ ¬ x.A b ∧ (∀ j, inR (sf j)) ∧ L ≤ 2560
section JRows8
variable {x : XX} {cc : ByteArray} {own : String} {fr lo mc ms nL ck sk pc : Nat} {lv : List (Nat × Value)} {st : List Value} {ws : va_W}
theorem j_slen (B : JB x cc own fr lo mc ms nL) {b L : Nat} {sf : Int → Int} (h : scOk x b L sf) (d : decode cc pc = .ok (.arraylength, 1)) (kk : JW x ck sk (pc + 1) lv (.int (iI (L : Int)) :: st) ws) : JW x ck sk pc lv (.ref b :: st) ws := by
  intro H locs ls hP hD hS hl
  refine va_slen B.1 B.2.1 h.1 h.2.1 h.2.2.1 hS d ?_
  have e := iI_nat L
  unfold nI at e
  rw [← e]
  exact kk H locs ls hP hD hS hl
theorem j_sld (B : JB x cc own fr lo mc ms nL) {b L : Nat} {sf : Int → Int} {i : Int} (h : scOk x b L sf) (hi : 0 ≤ i ∧ i < L) (d : decode cc pc = .ok (.iaload, 1)) (kk : JW x ck sk (pc + 1) lv (.int (iI (sf i)) :: st) ws) : JW x ck sk pc lv (.int (iI i) :: .ref b :: st) ws := by
  intro H locs ls hP hD hS hl
  have hL := h.2.2.2.2
  refine va_sld B.1 B.2.1 h.1 h.2.1 h.2.2.1 hS (iI_in hi.1 hi.2 (by omega)) d ?_
  rw [iI_clamp hi.1 (by omega)]
  show W _ _ _ _ _ _ _ _ _ _ _ _ _ _ _ (F0 _ _ _ (.int (iI (sf (i.toNat : Int))) :: _))
  rw [Int.toNat_of_nonneg hi.1]
  exact kk H locs ls hP hD hS hl
theorem j_icmp_eqS (B : JB x cc own fr lo mc ms nL) {a b off : Int} {tgt : Nat} (d : decode cc pc = .ok (.if_icmp .eq off, 3)) (ht : (pc : Int) + off = (tgt : Int)) (h : a = b) (k : JW x ck sk tgt lv st ws) : JW x ck sk pc lv (.int (iI b) :: .int (iI a) :: st) ws :=
  fun H locs ls hP hD hS hl => lv_icmp_eq B.1 B.2.1 d ht (fun _ => k H locs ls hP hD hS hl) (fun q => absurd (by rw [h]) q)
theorem j_lcmp_eqS (B : JB x cc own fr lo mc ms nL) {a b off : Int} {tgt : Nat} (d0 : decode cc pc = .ok (.lcmp, 1)) (d : decode cc (pc + 1) = .ok (.ifCond .eq off, 3)) (ht : ((pc + 1 : Nat) : Int) + off = (tgt : Int)) (h : a = b) (k : JW x ck sk tgt lv st ws) : JW x ck sk pc lv (.long (lI b) :: .long (lI a) :: st) ws :=
  fun H locs ls hP hD hS hl => W.lcmp B.1 B.2.1 d0 (lv_if_eq B.1 B.2.1 d ht (fun _ => k H locs ls hP hD hS hl) (fun q => absurd ((lg_cmp_eq _ _).mpr (by rw [h])) q))
theorem j_lawEnd (B : JB x cL_law own fr lo mc ms nL) {b : Nat} (hR : x.R = room_1) (ha : x.args = #[Value.ref b]) (hr : x.meth.sig.returnType = ret) (hlk : x.meth.locks = false) (hA : x.A = fun q => x.s.heap.size ≤ q) (hQ : x.Q = lw_Z x.below #[Value.ref b] x.s) (d : decode cL_law pc = .ok (.ireturn, 1)) (h1 : ck ≤ 603072) (h2 : sk ≤ 7194729) : JW x ck sk pc lv [.int (iI 1)] ws := by
  intro H locs ls hP hD hS hl
  rw [hR, ha, hQ]
  refine va_forget (fun q hq => by have := hS.2.2 q hq; rw [hA] at this; exact this) (W.widen h1 h2 ?_)
  exact lw_ret B.1 B.2.1 hr hlk d
end JRows8
theorem zA31 (a : Int) : zAnd a 31 = a % 32 := zAnd_mask 5 (by decide) (by decide)
