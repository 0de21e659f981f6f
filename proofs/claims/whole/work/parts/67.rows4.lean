/-! ===== what makes new cells ===== -/
def gA (U : State) : Prop := va_AO "SamplePacks$RowForm" U ∧ (Cond.arrayOver (.array .int)).before #[] U = true
theorem gA.warm {s U : State} (hW : s.WarmedH U.vm) (h : gA s) : gA U := by
  refine ⟨va_AO.moved hW.alike h.1, ?_⟩
  have z := Cond.arrayOver_setVmC (args := #[]) hW.alike (.array .int)
  have y : (Cond.arrayOver (.array .int)).before #[] (s.setVm U.vm) = true := by rw [z]; exact h.2
  exact y
theorem ra_one {U : State} {cA cB : ClassId} {ty : FieldType} (h : va_RA U cA ty) (k : va_RA U cB ty) : cA = cB := by
  cases ty with
  | object C =>
    obtain ⟨_, _, _, _, _, h4⟩ := h
    obtain ⟨_, _, _, _, _, k4⟩ := k
    exact Option.some.inj (h4.symm.trans k4)
  | byte => exact Option.some.inj (h.symm.trans k)
  | char => exact Option.some.inj (h.symm.trans k)
  | double => exact Option.some.inj (h.symm.trans k)
  | float => exact Option.some.inj (h.symm.trans k)
  | int => exact Option.some.inj (h.symm.trans k)
  | long => exact Option.some.inj (h.symm.trans k)
  | short => exact Option.some.inj (h.symm.trans k)
  | boolean => exact Option.some.inj (h.symm.trans k)
  | array t => exact Option.some.inj (h.symm.trans k)
section JRows4
variable {x : XX} {cc : ByteArray} {own : String} {fr lo mc ms nL ck sk pc : Nat} {lv : List (Nat × Value)} {st : List Value} {ws : va_W}
theorem j_newI (B : JB x cc own fr lo mc ms nL) {n : Int} {N : Nat} (w : Cond.arrayClass .int ∈ TB) (hn : iI n = iI (N : Int)) (hN : N < 100000) (d : decode cc pc = .ok (.newarray .int, 2)) (hr : ck + 1 ≤ mc ∧ sk + N ≤ ms)
    (kk : ∀ q : Nat, JW x (ck + 1) (sk + N) (pc + 2) lv (.ref q :: st) (ws ++ [(q, aI x.g N (fun _ => 0))])) : JW x ck sk pc lv (.int (iI n) :: st) ws := by
  intro H locs ls hP hD hS hl
  obtain ⟨r1, r2, r3, r4⟩ := B.2.2.2.2.2.2.2.2.2.1
  rw [hn]
  refine va_newa (atype := .int) (ty := .int) (a0 := (N, .inl (fun _ => iI 0))) B.1 B.2.1 (B.2.2.2.2.1 _ w) rfl B.2.2.2.2.2.1 hP hD hS B.2.2.2.2.2.2.2.2.1 (fun cA => rfl) (fun q => by have z := (iI_lt (a := (N : Int)) (b := 0) (by omega) (by decide)).mp q; omega) (by rw [iI_clamp (by omega) (by omega)]; omega) (by show N * 4 ≤ _; omega) (Nat.le_trans hr.1 r3) (Nat.le_trans hr.2 r4) d (fun q cA H1 hK1 hP1 hD1 hS1 => ?_)
  have e : cA = x.g.2.1 0 := ra_one (hK1.2 4 (cA, .int) rfl).2 (B.2.2.2.2.2.1.2 0 _ rfl).2
  rw [e] at hP1 hD1
  exact kk q H1 locs ls hP1 hD1 hS1 hl
theorem j_newL (B : JB x cc own fr lo mc ms nL) {n : Int} {N : Nat} (w : Cond.arrayClass .long ∈ TB) (hn : iI n = iI (N : Int)) (hN : N < 100000) (d : decode cc pc = .ok (.newarray .long, 2)) (hr : ck + 1 ≤ mc ∧ sk + N ≤ ms)
    (kk : ∀ q : Nat, JW x (ck + 1) (sk + N) (pc + 2) lv (.ref q :: st) (ws ++ [(q, aL x.g N (fun _ => 0))])) : JW x ck sk pc lv (.int (iI n) :: st) ws := by
  intro H locs ls hP hD hS hl
  obtain ⟨r1, r2, r3, r4⟩ := B.2.2.2.2.2.2.2.2.2.1
  rw [hn]
  refine va_newa (atype := .long) (ty := .long) (a0 := (N, .inr (.inl (fun _ => lI 0)))) B.1 B.2.1 (B.2.2.2.2.1 _ w) rfl B.2.2.2.2.2.1 hP hD hS B.2.2.2.2.2.2.2.2.1 (fun cA => rfl) (fun q => by have z := (iI_lt (a := (N : Int)) (b := 0) (by omega) (by decide)).mp q; omega) (by rw [iI_clamp (by omega) (by omega)]; omega) (by show N * 8 ≤ _; omega) (Nat.le_trans hr.1 r3) (Nat.le_trans hr.2 r4) d (fun q cA H1 hK1 hP1 hD1 hS1 => ?_)
  have e : cA = x.g.2.1 1 := ra_one (hK1.2 4 (cA, .long) rfl).2 (B.2.2.2.2.2.1.2 1 _ rfl).2
  rw [e] at hP1 hD1
  exact kk q H1 locs ls hP1 hD1 hS1 hl
theorem j_new (B : JB x cc own fr lo mc ms nL) {i N ci : Nat} {C : String} {T : u_T} (wl : Cond.classLink own i C ∈ TB) (wi : Cond.instantiable C N ∈ TB) (wz : Cond.initialized C ∈ TB) (hin : ∀ w ∈ u_ws C T N, w ∈ TB) (ty : Nat → FieldType) (hty : ∀ k, k < N → parseFieldDescriptor (T k).2.2.1 = some (ty k)) (hc : vwCl[ci]? = some (C, T, N)) {fs : List Value} (hfs : ∀ j, j < N → defaultValue (ty j) = vp_V fs j) (d : decode cc pc = .ok (.new i, 3)) (hr : ck + 1 ≤ mc ∧ sk + N ≤ ms)
    (kk : ∀ q : Nat, JW x (ck + 1) (sk + N) (pc + 3) lv (.ref q :: st) (ws ++ [(q, .inr (ci, fs))])) : JW x ck sk pc lv st ws := by
  intro H locs ls hP hD hS hl
  obtain ⟨r1, r2, r3, r4⟩ := B.2.2.2.2.2.2.2.2.2.1
  exact va_new B.1 B.2.1 B.2.2.2.2.1 hin ty hty B.2.2.2.1 (B.2.2.2.2.1 _ wl) (B.2.2.2.2.1 _ wi) (B.2.2.2.2.1 _ wz) B.2.2.2.2.2.1 hP hD hS B.2.2.2.2.2.2.2.2.1 hc hfs (Nat.le_trans hr.1 r3) (Nat.le_trans hr.2 r4) d (fun q H1 hP1 hD1 hS1 => kk q H1 locs ls hP1 hD1 hS1 hl)
theorem j_newF (B : JB x cc own fr lo mc ms nL) (hA : gA x.s) {i N : Nat} {n : Int} (wl : Cond.classLink own i "SamplePacks$RowForm" ∈ TB) (hn : iI n = iI (N : Int)) (hN : N < 100000) (d : decode cc pc = .ok (.anewarray i, 3)) (hr : ck + 1 ≤ mc ∧ sk + N ≤ ms)
    (kk : ∀ q : Nat, JW x (ck + 1) (sk + N) (pc + 3) lv (.ref q :: st) (ws ++ [(q, aF x.g N (fun _ => none))])) : JW x ck sk pc lv (.int (iI n) :: st) ws := by
  intro H locs ls hP hD hS hl
  obtain ⟨r1, r2, r3, r4⟩ := B.2.2.2.2.2.2.2.2.2.1
  rw [hn]
  refine va_newq (C := "SamplePacks$RowForm") B.1 B.2.1 B.2.2.2.1 (B.2.2.2.2.1 _ wl) hA.1 B.2.2.2.2.2.1 hP hD hS B.2.2.2.2.2.2.2.2.1 (fun q => by have z := (iI_lt (a := (N : Int)) (b := 0) (by omega) (by decide)).mp q; omega) (N' := N) (by rw [iI_clamp (by omega) (by omega)]; omega) (by omega) (Nat.le_trans hr.1 r3) (Nat.le_trans hr.2 r4) d (fun q cA H1 hK1 hP1 hD1 hS1 => ?_)
  have e : cA = x.g.2.1 3 := ra_one (hK1.2 4 (cA, .object "SamplePacks$RowForm") rfl).2 (B.2.2.2.2.2.1.2 3 _ rfl).2
  rw [e] at hP1 hD1
  exact kk q H1 locs ls hP1 hD1 hS1 hl
theorem j_newG (B : JB x cc own fr lo mc ms nL) (hA : gA x.s) {i N : Nat} {n : Int} (wl : Cond.classLink own i "[I" ∈ TB) (hn : iI n = iI (N : Int)) (hN : N < 100000) (d : decode cc pc = .ok (.anewarray i, 3)) (hr : ck + 1 ≤ mc ∧ sk + N ≤ ms)
    (kk : ∀ q : Nat, JW x (ck + 1) (sk + N) (pc + 3) lv (.ref q :: st) (ws ++ [(q, aG x.g N (fun _ => none))])) : JW x ck sk pc lv (.int (iI n) :: st) ws := by
  intro H locs ls hP hD hS hl
  obtain ⟨r1, r2, r3, r4⟩ := B.2.2.2.2.2.2.2.2.2.1
  have hc : (iI n).toNatClampNeg = N := by rw [hn, iI_clamp (by omega) (by omega)]; omega
  have hneg : ¬ iI n < 0 := by rw [hn]; exact fun q => by have z := (iI_lt (a := (N : Int)) (b := 0) (by omega) (by decide)).mp q; omega
  refine W.anewA (t := .int) B.1 B.2.1 B.2.2.2.1 (B.2.2.2.2.1 _ wl) hA.2 rfl d rfl hneg (by rw [hc]; omega) (Nat.le_trans hr.1 r3) (by rw [hc]; exact Nat.le_trans hr.2 r4) (fun cA kA comp f1 f2 f3 f4 => ?_)
  rw [hc]
  have e : cA = x.g.2.1 2 := Option.some.inj (f1.symm.trans (B.2.2.2.2.2.1.2 2 _ rfl).2)
  subst e
  have o1 : ∀ q : Nat, q < H.size → (Array.push H { cls := x.g.2.1 2, slots := Array.replicate N Value.null })[q]? = H[q]? := fun q hq => by rw [Array.getElem?_push, if_neg (Nat.ne_of_lt hq)]
  refine kk H.size _ locs ls ((hP.kept (fun k z hz => o1 z.1 ((hP k z hz).lt))).app (fun k z hz => ?_)) (hD.push hP rfl (B.2.2.2.2.2.2.2.2.1 _ hS.1)) ⟨Nat.le_trans hS.1 (by rw [Array.size_push]; omega), fun q h1 h2 => (o1 q (Nat.lt_of_lt_of_le h1 hS.1)).trans (hS.2.1 q h1 h2), hS.2.2⟩ hl
  have h0 : k < 1 := (List.getElem?_eq_some_iff.mp hz).1
  rw [show k = 0 by omega] at hz
  cases hz
  show (Array.push H _)[H.size]? = some (vp_cell _ _)
  rw [vp_cell_q, Array.getElem?_push_size]
  exact congrArg some (arrV_new _ N _)
theorem j_astF (B : JB x cc own fr lo mc ms nL) {a n v ci : Nat} {f : Nat → Option Nat} {i : Int} {r : vw_C} {vs : List Value} {ws' : va_W} (d : decode cc pc = .ok (.aastore, 1)) (q0 qk : Nat) (ha : ws[q0]? = some (a, aF x.g n f)) (hv : ws[qk]? = some (v, .inr (ci, vs))) (hc : vwCl[ci]? = some r) (hr : r.1 = "SamplePacks$RowForm") (h : 0 ≤ i ∧ i < n) (hn : n < 2147483648) (hw : ws.set q0 (a, aF x.g n (va_up f i.toNat (some v))) = ws') (kk : JW x ck sk (pc + 1) lv st ws') : JW x ck sk pc lv (.ref v :: .int (iI i) :: .ref a :: st) ws := by
  intro H locs ls hP hD hS hl
  refine va_astq B.1 B.2.1 B.2.2.2.2.2.1 hP hD hS q0 3 qk ci ha (by rw [hr]; rfl) hv hc (iI_in h.1 h.2 hn) d (fun H1 locs1 hP1 hD1 hS1 => ?_)
  rw [iI_clamp h.1 (by omega), hw] at hP1 hD1
  exact kk H1 locs1 ls hP1 hD1 hS1 hl
theorem j_astG (B : JB x cc own fr lo mc ms nL) (hA : gA x.s) {a n v nv : Nat} {f : Nat → Option Nat} {fv : Int → Int} {i : Int} {ws' : va_W} (d : decode cc pc = .ok (.aastore, 1)) (q0 qk : Nat) (ha : ws[q0]? = some (a, aG x.g n f)) (hv : ws[qk]? = some (v, aI x.g nv fv)) (h : 0 ≤ i ∧ i < n) (hn : n < 2147483648) (hw : ws.set q0 (a, aG x.g n (va_up f i.toNat (some v))) = ws') (kk : JW x ck sk (pc + 1) lv st ws') : JW x ck sk pc lv (.ref v :: .int (iI i) :: .ref a :: st) ws := by
  intro H locs ls hP hD hS hl
  have hin := iI_in h.1 h.2 hn
  have hlt : (iI i).toNatClampNeg < n := Nat.not_le.mp fun q => hin (Or.inr q)
  have h0 : ¬ iI i < 0 := fun q => hin (Or.inl q)
  obtain ⟨comp, cA2, kA, k3, -, k1, k2, k4⟩ := arrayOverA_spec (t := .int) hA.2
  have e2 : cA2 = x.g.2.1 2 := Option.some.inj (k4.symm.trans (B.2.2.2.2.2.1.2 2 _ rfl).2)
  have e3 : comp = x.g.2.1 0 := Option.some.inj (k3.symm.trans (B.2.2.2.2.2.1.2 0 _ rfl).2)
  subst e2; subst e3
  obtain ⟨kE, hkE, -⟩ := Vm.findClass_spec k3
  refine W.aast B.1 B.2.1 (hP q0 _ ha) (fun q h => by cases h) (fun h => by cases h) k1 k2 rfl hkE ⟨h0, by show _ < (arrV _ _ _).slots.size; rw [arrV_size]; exact hlt⟩ (hP qk _ hv) (fun q h => by cases h) hkE (va_asg _ _) rfl rfl d fun H1 e z oq => ?_
  have hP1 := hP.set (e := aG x.g n (va_up f i.toNat (some v))) hD ha (by
    show H1[a]? = some (vp_cell _ _)
    rw [e, vp_cell_q, vp_cell_q, arrV_store, iI_clamp h.1 (by omega)]
    congr 2
    funext q
    by_cases hq : q = i.toNat
    · subst hq
      simp [updV, va_up, va_rf]
    · simp [updV, va_up, hq]) oq
  rw [hw] at hP1
  have hD1 := hD.set (e := aG x.g n (va_up f i.toNat (some v))) ha
  rw [hw] at hD1
  exact kk H1 _ ls hP1 hD1 (hS.put z oq (hD.2 q0 _ ha)) hl
theorem j_objInit (B : JB x cc own fr lo mc ms nL) {i a : Nat} (wl : Cond.methodLink own i objectInit ∈ TB) (wi : Cond.instanceMethod objectInit ∈ TB) (wc : Cond.code objectInit ⟨#[0xb1]⟩ 1 none ∈ TB) (d : decode cc pc = .ok (.invokespecial i, 3)) (hr : 1 ≤ fr ∧ (st.map fun v => v.category).sum + 12 ≤ lo) (kk : JW x ck sk (pc + 3) lv st ws) : JW x ck sk pc lv (.ref a :: st) ws := by
  intro H locs ls hP hD hS hl
  obtain ⟨r1, r2, r3, r4⟩ := B.2.2.2.2.2.2.2.2.2.1
  exact W.objInit B.1 B.2.1 B.2.2.2.1 (B.2.2.2.2.1 _ wl) (B.2.2.2.2.1 _ wi) (B.2.2.2.2.1 _ wc) rfl (hl.1.trans (B.2.2.2.2.2.2.2.2.2.2.trans B.2.2.1.symm)) rfl d (Nat.le_trans hr.1 r1) (by show 2 * 0 + _ + 12 ≤ _; rw [Nat.mul_zero, Nat.zero_add]; exact Nat.le_trans hr.2 r2) (kk H locs ls hP hD hS hl)
end JRows4
/-- a contract of a method that makes arrays of arrays, or calls one that does -/
def CtrA (l : Launch) (g : GG) (y : MethodName) (bytes : ByteArray) (maxL : Nat) (ret : Option FieldType) (fr lo mc ms : Nat) (av : List Value) (ws : va_W) (Post : Option Value → va_W → Prop) : Prop :=
  ∀ sz : Nat, Met l y (Cond.code y bytes maxL ret :: TB) { frames := fr, cells := mc, slots := ms, locals := lo } (fun a U => cP g av ws sz a U ∧ gA U) (cQ g ws sz Post) mc ms (va_A ws sz)
theorem CtrA.of {l : Launch} {g : GG} {y : MethodName} {bytes : ByteArray} {maxL : Nat} {ret : Option FieldType} {fr lo mc ms : Nat} {av : List Value} {ws : va_W} {Post : Option Value → va_W → Prop} (lv : List (Nat × Value))
    (hy : plainName y.cls = true) (hav : (lg_sl av).length ≤ maxL) (hlv : lv_args 0 av = lv)
    (body : ∀ x : XX, x.l = l → x.g = g → JB x bytes y.cls fr lo mc ms maxL → JR x ret mc ms ws Post → (y.name = "<init>" → x.meth.name = "<init>") → gA x.s → JW x 0 0 0 lv [] ws) : CtrA l g y bytes maxL ret fr lo mc ms av ws Post := by
  intro sz
  refine Met.ofW (cc := bytes) (maxL := maxL) (ret := ret) hy rfl ?_
  intro p e s m args below meth c s₁ B hml hv
  obtain ⟨⟨rfl, hsz, hP, hK, hD, hN, hS⟩, hG⟩ := hv
  subst hsz
  have hts : ∀ w ∈ TB, w.before av.toArray s = true := fun w hw => atoms_spec (ws := Cond.code y bytes maxL ret :: TB) B.pre w (List.mem_cons_of_mem _ hw)
  have hx := body ((p, l, e, { frames := fr, cells := mc, slots := ms, locals := lo }, s), (m, av.toArray, below, meth, c), (g, va_A ws s.heap.size, maxL, MQ below (cQ g ws s.heap.size Post) av.toArray s mc ms (va_A ws s.heap.size))) rfl rfl
    ⟨B.exec, B.bytes, hml, findClass_of_methodNamed B.named, hts, hK, hN, hS, fun q h => Or.inr h, ⟨Nat.le_refl _, Nat.le_refl _, Nat.le_refl _, Nat.le_refl _⟩, rfl⟩
    ⟨B.returns, B.notSynchronized, rfl, rfl⟩ (fun h => (name_of_methodNamed B.named B.method).1.trans h) hG
  have hl := lv_entry av hav
  rw [hlv] at hl
  rw [lg_entry_eq]
  exact hx s.heap [] _ hP (hD.self (sz := s.heap.size)) va_S.rf hl
section JRows4b
variable {x : XX} {cc : ByteArray} {own : String} {fr lo mc ms nL ck sk pc : Nat} {lv : List (Nat × Value)} {st : List Value} {ws : va_W}
theorem j_callIA (B : JB x cc own fr lo mc ms nL) (hG : gA x.s) {i : Nat} {y : MethodName} {bytes : ByteArray} {maxL n : Nat} {fr' lo' mc' ms' : Nat} {b : Nat} {As rest : List Value} {wc wr : va_W} {Post : Option Value → va_W → Prop} (hy : CY y bytes maxL none n) (hin : Cond.instanceMethod y ∈ TB) (hy1 : y.name = "<init>") (hl0 : Cond.methodLink own i y ∈ TB)
    (hM : CtrA x.l x.g y bytes maxL none fr' lo' mc' ms' (.ref b :: As) wc Post)
    (isC isR : List Nat) (hnC : va_nd isC = true) (hC : isC.map (fun i => ws[i]?) = wc.map some) (hR : isR.map (fun i => ws[i]?) = wr.map some) (hn : va_nd isR = true) (hdis : ∀ i ∈ isR, i ∉ isC)
    (hst : st = As.reverse ++ .ref b :: rest) (hlen : As.length = n) (hrm : (rest.map fun v => v.category).sum ≤ 8) (hroom : fr' + 1 ≤ fr ∧ 8 + (maxL + 11) + lo' ≤ lo ∧ ck + mc' ≤ mc ∧ sk + ms' ≤ ms) (d : decode cc pc = .ok (.invokespecial i, 3))
    (kk : ∀ (v : Option Value) (w1 : va_W), Post v w1 → JW x (ck + mc') (sk + ms') (pc + 3) lv (v.toList ++ rest) (wr ++ w1)) : JW x ck sk pc lv st ws := by
  intro H locs ls hP hD hS hl
  have ok : ∀ w ∈ TB, w.before x.args x.s = true := B.2.2.2.2.1
  obtain ⟨r1, r2, r3, r4⟩ := B.2.2.2.2.2.2.2.2.2.1
  refine j_after (y := y) (bytes := bytes) (maxL := maxL) (ret := none) (g := F0 x.m pc ls st) (a := (Value.ref b :: As).toArray) B hP hD hS hl isC isR hC hR hn hdis ?_ kk
  exact va_runI (As := As) (rest := rest) (b := b) (Ts := TB) ⟨B.1, B.2.1, B.2.2.1.trans B.2.2.2.2.2.2.2.2.2.2.symm, B.2.2.2.1, ok⟩ (hM H.size)
    ⟨callB_of n ok (TB_good hy) rfl rfl rfl (ok _ hy.2.1) (ok _ hl0) hy.2.2 ⟨Nat.le_trans hroom.1 r1, Nat.le_trans hroom.2.1 r2⟩, hy1, ok _ hin⟩
    ⟨fun a U fr mk h => ⟨cP_blind _ _ _ _ a U fr mk h.1, gA.warm (s := U) (U := U.calling fr mk a) (State.WarmedH.refl U) h.2⟩, fun U hU hW => ⟨cP_at B hP hD hS isC hnC hC U hU hW, gA.warm hW hG⟩⟩ rfl hlen hl.1 hst (lv_room hrm) d ⟨Nat.le_trans hroom.2.2.1 r3, Nat.le_trans hroom.2.2.2 r4⟩
theorem j_callINA (B : JB x cc own fr lo mc ms nL) (hG : gA x.s) {i : Nat} {host : String} {y : MethodName} {bytes : ByteArray} {maxL n : Nat} {fr' lo' mc' ms' : Nat} {b : Nat} {As rest : List Value} {wc wr : va_W} {Post : Option Value → va_W → Prop} (hy : CY y bytes maxL none n) (hin : Cond.instanceMethod y ∈ TB) (hy1 : y.name = "<init>") (hl0 : Cond.methodLinkNest own i y host ∈ NL)
    (hM : CtrA x.l x.g y bytes maxL none fr' lo' mc' ms' (.ref b :: As) wc Post)
    (isC isR : List Nat) (hnC : va_nd isC = true) (hC : isC.map (fun i => ws[i]?) = wc.map some) (hR : isR.map (fun i => ws[i]?) = wr.map some) (hn : va_nd isR = true) (hdis : ∀ i ∈ isR, i ∉ isC)
    (hst : st = As.reverse ++ .ref b :: rest) (hlen : As.length = n) (hrm : (rest.map fun v => v.category).sum ≤ 8) (hroom : fr' + 1 ≤ fr ∧ 8 + (maxL + 11) + lo' ≤ lo ∧ ck + mc' ≤ mc ∧ sk + ms' ≤ ms) (d : decode cc pc = .ok (.invokespecial i, 3))
    (kk : ∀ (v : Option Value) (w1 : va_W), Post v w1 → JW x (ck + mc') (sk + ms') (pc + 3) lv (v.toList ++ rest) (wr ++ w1)) : JW x ck sk pc lv st ws := by
  intro H locs ls hP hD hS hl
  have ok : ∀ w ∈ TB, w.before x.args x.s = true := B.2.2.2.2.1
  obtain ⟨r1, r2, r3, r4⟩ := B.2.2.2.2.2.2.2.2.2.1
  refine j_after (y := y) (bytes := bytes) (maxL := maxL) (ret := none) (g := F0 x.m pc ls st) (a := (Value.ref b :: As).toArray) B hP hD hS hl isC isR hC hR hn hdis ?_ kk
  exact va_runIN (As := As) (rest := rest) (b := b) (Ts := TB) ⟨B.1, B.2.1, B.2.2.1.trans B.2.2.2.2.2.2.2.2.2.2.symm, B.2.2.2.1, ok⟩ (hM H.size)
    ⟨va_cnB n ok (TB_good hy) rfl rfl rfl (B.2.2.2.2.2.2.1 _ hl0) (ok _ hy.2.1) hy.2.2 ⟨Nat.le_trans hroom.1 r1, Nat.le_trans hroom.2.1 r2⟩, hy1, ok _ hin⟩
    ⟨fun a U fr mk h => ⟨cP_blind _ _ _ _ a U fr mk h.1, gA.warm (s := U) (U := U.calling fr mk a) (State.WarmedH.refl U) h.2⟩, fun U hU hW => ⟨cP_at B hP hD hS isC hnC hC U hU hW, gA.warm hW hG⟩⟩ rfl hlen hl.1 hst (lv_room hrm) d ⟨Nat.le_trans hroom.2.2.1 r3, Nat.le_trans hroom.2.2.2 r4⟩
end JRows4b
theorem arrV_eq {c : ClassId} {n : Nat} {f h : Nat → Value} (e : ∀ j, j < n → f j = h j) : arrV c n f = arrV c n h := by
  have z : (fun j : Fin n => f j.val) = (fun j : Fin n => h j.val) := funext fun j => e j.val j.isLt
  unfold arrV
  rw [z]
section JRows4c
variable {x : XX} {ck sk pc : Nat} {lv : List (Nat × Value)} {st : List Value} {ws : va_W}
theorem j_refs {cA : ClassId} {a n : Nat} {f : Nat → Option Nat} (h : Nat → Option Nat) {ws' : va_W} (q : Nat) (he : ws[q]? = some (a, .inl (cA, n, .inr (.inr (.inr (.inr f)))))) (hf : ∀ j, j < n → f j = h j) (hw : ws.set q (a, .inl (cA, n, .inr (.inr (.inr (.inr h))))) = ws') (kk : JW x ck sk pc lv st ws') : JW x ck sk pc lv st ws := by
  intro H locs ls hP hD hS hl
  have hP1 := hP.set (e := .inl (cA, n, .inr (.inr (.inr (.inr h))))) hD he (by
    show H[a]? = some (vp_cell _ _)
    have z : H[a]? = some (vp_cell cA (n, .inr (.inr (.inr (.inr f))))) := hP q _ he
    rw [z, vp_cell_q, vp_cell_q, arrV_eq (fun j hj => by rw [hf j hj])]) (fun _ _ => rfl)
  have hD1 := hD.set (e := .inl (cA, n, .inr (.inr (.inr (.inr h))))) he
  rw [hw] at hP1 hD1
  exact kk H locs ls hP1 hD1 hS hl
end JRows4c
