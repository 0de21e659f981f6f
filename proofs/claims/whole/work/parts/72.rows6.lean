/-! ===== got: it may throw ===== -/
def EXN : String := "java/lang/ArrayIndexOutOfBoundsException"
def nmsX : List String := ["java/lang/IndexOutOfBoundsException", "java/lang/RuntimeException", "java/lang/Exception"]
def XW : List Cond := (vx_atS RX11 189 EXN nmsX).filter (fun w => !goodWord w)
def isDC : Cond → Bool
  | .declares _ => true
  | .castable _ _ => true
  | _ => false
theorem XW_dc : ∀ w ∈ XW, isDC w = true := by decide +kernel
def gX (sa : Nat) (A : Nat → Prop) (U : State) (H : Heap) : Prop := (∀ w ∈ XW, va_Nw w U) ∧ vk_R RX11 187 "no such sample was shown" sa U ∧ vx_Zq Bundle.tN "UNASSIGNED_STACK" Bundle.steD A U H ∧ vx_Zq Bundle.tN "SUPPRESSED_SENTINEL" Bundle.listD A U H
theorem gX.warm {sa : Nat} {A : Nat → Prop} {s U : State} {H : Heap} (hW : s.WarmedH U.vm) (h : gX sa A s H) : gX sa A U H := by
  refine ⟨fun w hw => ?_, vk_R.warm hW h.2.1, vx_Zq.moved hW.alike h.2.2.1, vx_Zq.moved hW.alike h.2.2.2⟩
  have h1 := h.1 w hw
  have h2 := XW_dc w hw
  cases w <;> first | exact va_Nw.warmD hW h1 | exact va_Nw.warmC hW h1 | cases h2
theorem gX.kept {sa : Nat} {A : Nat → Prop} {U : State} {H H1 : Heap} (h : gX sa A U H) (hq : ∀ a : Nat, a < H.size → ¬ A a → H1[a]? = H[a]?) : gX sa A U H1 := ⟨h.1, h.2.1, vx_Zq.kept h.2.2.1 hq, vx_Zq.kept h.2.2.2 hq⟩
theorem gX.narrow {sa : Nat} {A B : Nat → Prop} {U : State} {H : Heap} (h : gX sa A U H) (hq : ∀ a, B a → A a) : gX sa B U H := ⟨h.1, h.2.1, vx_Zq.narrow h.2.2.1 hq, vx_Zq.narrow h.2.2.2 hq⟩
def gotP (g : GG) (av : List Value) (ws : va_W) (sz sa : Nat) : Array Value → State → Prop := fun a U => cP g av ws sz a U ∧ gX sa (va_A ws sz) U U.heap
def gotXC (g : GG) (ws : va_W) (sz : Nat) (N : Prop) : String → State → State → Prop := fun E st t => (E = EXN ∧ N) ∧ va_P g.1 vwCl ws t.heap ∧ va_D (va_A ws sz) ws ∧ va_F (va_A ws sz) st t
theorem gotP_blind (g : GG) (av : List Value) (ws : va_W) (sz sa : Nat) : FrameBlind (gotP g av ws sz sa) := fun a U fr mk h => ⟨cP_blind g av ws sz a U fr mk h.1, gX.warm (s := U) (U := U.calling fr mk a) (State.WarmedH.refl U) h.2⟩
def CtrX (l : Launch) (g : GG) (sa : Nat) (y : MethodName) (bytes : ByteArray) (maxL : Nat) (ret : Option FieldType) (fr lo mc ms : Nat) (av : List Value) (ws : va_W) (N : Prop) (Post : Option Value → va_W → Prop) : Prop :=
  ∀ sz : Nat, vx_Met l y (Cond.code y bytes maxL ret :: TB) { frames := fr, cells := mc, slots := ms, locals := lo } (gotP g av ws sz sa) (cQ g ws sz Post) (gotXC g ws sz N) mc ms (va_A ws sz)
def JRX (x : XX) (ret : Option FieldType) (mc ms : Nat) (ws : va_W) (N : Prop) (Post : Option Value → va_W → Prop) : Prop :=
  x.meth.sig.returnType = ret ∧ x.meth.locks = false ∧ x.A = va_A ws x.s.heap.size ∧ x.Q = vx_MQ x.below (cQ x.g ws x.s.heap.size Post) (gotXC x.g ws x.s.heap.size N) x.args x.s mc ms x.A
theorem CtrX.of {l : Launch} {g : GG} {sa : Nat} {y : MethodName} {bytes : ByteArray} {maxL : Nat} {ret : Option FieldType} {fr lo mc ms : Nat} {av : List Value} {ws : va_W} {N : Prop} {Post : Option Value → va_W → Prop} (lv : List (Nat × Value))
    (hy : plainName y.cls = true) (hav : (lg_sl av).length ≤ maxL) (hlv : lv_args 0 av = lv)
    (body : ∀ x : XX, x.l = l → x.g = g → JB x bytes y.cls fr lo mc ms maxL → JRX x ret mc ms ws N Post → gX sa x.A x.s x.s.heap → (∀ z ∈ x.c.exceptionTable.toList, False) → va_D (va_A ws x.s.heap.size) ws → JW x 0 0 0 lv [] ws) : CtrX l g sa y bytes maxL ret fr lo mc ms av ws N Post := by
  intro sz
  refine vx_ofW (cc := bytes) (maxL := maxL) (ret := ret) hy rfl ?_
  intro p e s m args below meth c s₁ B hml hnoX hv
  obtain ⟨⟨rfl, hsz, hP, hK, hD, hN, hS⟩, hG⟩ := hv
  subst hsz
  have hts : ∀ w ∈ TB, w.before av.toArray s = true := fun w hw => atoms_spec (ws := Cond.code y bytes maxL ret :: TB) B.pre w (List.mem_cons_of_mem _ hw)
  have hx := body ((p, l, e, { frames := fr, cells := mc, slots := ms, locals := lo }, s), (m, av.toArray, below, meth, c), (g, va_A ws s.heap.size, maxL, vx_MQ below (cQ g ws s.heap.size Post) (gotXC g ws s.heap.size N) av.toArray s mc ms (va_A ws s.heap.size))) rfl rfl
    ⟨B.exec, B.bytes, hml, findClass_of_methodNamed B.named, hts, hK, hN, hS, fun q h => Or.inr h, ⟨Nat.le_refl _, Nat.le_refl _, Nat.le_refl _, Nat.le_refl _⟩, rfl⟩
    ⟨B.returns, B.notSynchronized, rfl, rfl⟩ hG hnoX (hD.self (sz := s.heap.size))
  have hl := lv_entry av hav
  rw [hlv] at hl
  rw [lg_entry_eq]
  exact hx s.heap [] _ hP (hD.self (sz := s.heap.size)) va_S.rf hl
section JRows6
variable {x : XX} {cc : ByteArray} {own : String} {fr lo mc ms nL ck sk pc : Nat} {lv : List (Nat × Value)} {st : List Value} {ws : va_W}
theorem j_iretX (B : JB x cc own fr lo mc ms nL) {w0 : va_W} {N : Prop} {Post : Option Value → va_W → Prop} {v : Int32} (J : JRX x (some .int) ck sk w0 N Post) (d : decode cc pc = .ok (.ireturn, 1)) (hp : Post (some (.int v)) ws) : JW x ck sk pc lv [.int v] ws := by
  intro H locs ls hP hD hS hl
  obtain ⟨hr, hlk, hA, hQ⟩ := J
  rw [hQ]
  rw [hA] at hD hS ⊢
  exact vx_ret (W.iret B.1 B.2.1 hr (fun t ht hW => ⟨⟨_, ws, rfl, hp, by rw [ht]; exact hP, hD⟩, hS.F ht⟩) hS.2.2 d hlk)
theorem XW_at {A : Nat → Prop} {sa : Nat} (B : JB x cc own fr lo mc ms nL) (hX : gX sa A x.s x.s.heap) (hg : ∀ w ∈ (vx_atS RX11 189 EXN nmsX).filter goodWord, w ∈ TB) : ∀ w ∈ vx_atS RX11 189 EXN nmsX, w.before x.args x.s = true := by
  intro w hw
  by_cases q : goodWord w = true
  · exact B.2.2.2.2.1 _ (hg w (List.mem_filter.mpr ⟨hw, q⟩))
  · have h1 : w ∈ XW := List.mem_filter.mpr ⟨hw, by simp [q]⟩
    have h2 := hX.1 w h1
    have h3 := XW_dc w h1
    cases w <;> first | exact va_Nw.use rfl h2 | cases h3
theorem j_throwX (B : JB x cc RX11 fr lo mc ms nL) (hl0 : x.l.stackTraces = false) {sa : Nat} {N : Prop} {Post : Option Value → va_W → Prop} (J : JRX x (some .int) (ck + 1) (sk + 6) ws N Post) (hX : gX sa x.A x.s x.s.heap) (hnoX : ∀ z ∈ x.c.exceptionTable.toList, False) (hDw : va_D (va_A ws x.s.heap.size) ws) (hg : ∀ w ∈ (vx_atS RX11 189 EXN nmsX).filter goodWord, w ∈ TB) (wl : Cond.classLink RX11 185 EXN ∈ TB) (wz : Cond.initialized EXN ∈ TB) (hN : N)
    (d0 : decode cc pc = .ok (.new 185, 3)) (d3 : decode cc (pc + 3) = .ok (.dup, 1)) (d4 : decode cc (pc + 4) = .ok (.ldc 187, 2)) (d6 : decode cc (pc + 6) = .ok (.invokespecial 189, 3)) (d9 : decode cc (pc + 9) = .ok (.athrow, 1)) (hr : 7 ≤ fr ∧ 95 ≤ lo ∧ ck + 1 ≤ mc ∧ sk + 6 ≤ ms) : JW x ck sk pc lv [] ws := by
  intro H locs ls hP hD hS hl
  obtain ⟨hr0, hlk, hA, hQ⟩ := J
  obtain ⟨r1, r2, r3, r4⟩ := B.2.2.2.2.2.2.2.2.2.1
  rw [hQ]
  refine vx_throwS (A := x.A) (names := nmsX) (text := "no such sample was shown") (own := RX11) (cls := EXN) B.1 B.2.1 hl0 B.2.2.2.1 (by decide +kernel) (by decide +kernel) (B.2.2.2.2.1 _ wl) (B.2.2.2.2.1 _ wz) hX.2.1 (XW_at B hX hg) (by decide +kernel) hX.2.2.1 hX.2.2.2 hS (hl.1.trans (B.2.2.2.2.2.2.2.2.2.2.trans B.2.2.1.symm)) d0 d3 d4 d6 d9 (fun z hz => (hnoX z hz).elim) (by show 3 + 3 < _; omega) (by show 0 + (13 * (3 + 1) + 43) ≤ _; omega) (Nat.le_trans hr.2.2.1 r3) (Nat.le_trans hr.2.2.2 r4) hlk (fun t hal hz hsame => ?_) hS.2.2 (Nat.le_refl _) (Nat.le_refl _)
  refine ⟨⟨rfl, hN⟩, hP.kept (fun k z hz => hsame z.1 ((hP k z hz).lt)), hDw, Nat.le_trans hS.1 hz, fun q h1 h2 => ?_⟩
  rw [hsame q (Nat.lt_of_lt_of_le h1 hS.1)]
  exact hS.2.1 q h1 (by rw [hA]; exact h2)
end JRows6
theorem MetH_of {l : Launch} {y : MethodName} {ws ws' : List Cond} {rm : Room} {Pc : Array Value → State → Prop} {Qc : Array Value → State → Outcome → State → Prop} {mc ms : Nat} {free : Addr → Prop} {cc : ByteArray} {maxL : Nat} {ret : Option FieldType} {hh : List (Nat × Nat × Nat × Nat)}
    (hy : plainName y.cls = true) (hw : ws = Cond.codeWith y cc maxL ret hh :: ws')
    (body : ∀ p e s m args below meth c s₁, BodyLoose p l y (headSpec ws rm) cc maxL ret e s m args below meth c s₁ → c.maxLocals = maxL → Pc args s →
      W p l e (headSpec ws rm).room s m args below meth c s.heap [] 0 0 (MQ below Qc args s mc ms free) (entryFrame m args maxL)) : Met l y ws rm Pc Qc mc ms free := by
  refine MetFree.of_bodyS (code := cc) (maxLocals := maxL) (ret := ret) hy ?_ ?_
  · intro args s m h hn
    obtain ⟨m9, meth, c, hn9, h1, h2, h3, h4, -, h5, h6, -⟩ := Cond.codeWith_spec (atoms_spec (ws := ws) h _ (by rw [hw]; exact List.mem_cons_self))
    cases hn.symm.trans hn9
    exact ⟨meth, c, h1, h2, h3, h4, h5, h6⟩
  · intro p e s m args below meth c s₁ B hml hP _
    have hh0 : s₁.heap = s.heap := by rw [B.state]; rfl
    obtain ⟨t, a1, o, b1, b2, b3⟩ := body p e s m args below meth c s₁ B hml hP s₁ hh0 (Stand.of_body B)
    exact ⟨t, o, a1, b1, b2, b3⟩
def CtrH (l : Launch) (g : GG) (sa : Nat) (y : MethodName) (bytes : ByteArray) (maxL : Nat) (ret : Option FieldType) (hh : List (Nat × Nat × Nat × Nat)) (fr lo mc ms : Nat) (av : List Value) (ws : va_W) (Post : Option Value → va_W → Prop) : Prop :=
  ∀ sz : Nat, Met l y (Cond.codeWith y bytes maxL ret hh :: TB) { frames := fr, cells := mc, slots := ms, locals := lo } (gotP g av ws sz sa) (cQ g ws sz Post) mc ms (va_A ws sz)
theorem CtrH.of {l : Launch} {g : GG} {sa : Nat} {y : MethodName} {bytes : ByteArray} {maxL : Nat} {ret : Option FieldType} {hh : List (Nat × Nat × Nat × Nat)} {fr lo mc ms : Nat} {av : List Value} {ws : va_W} {Post : Option Value → va_W → Prop} (lv : List (Nat × Value))
    (hy : plainName y.cls = true) (hav : (lg_sl av).length ≤ maxL) (hlv : lv_args 0 av = lv)
    (body : ∀ x : XX, x.l = l → x.g = g → JB x bytes y.cls fr lo mc ms maxL → JR x ret mc ms ws Post → gX sa x.A x.s x.s.heap → x.c.exceptionTable.toList = tableOf hh → JW x 0 0 0 lv [] ws) : CtrH l g sa y bytes maxL ret hh fr lo mc ms av ws Post := by
  intro sz
  refine MetH_of (cc := bytes) (maxL := maxL) (ret := ret) (hh := hh) hy rfl ?_
  intro p e s m args below meth c s₁ B hml hv
  obtain ⟨⟨rfl, hsz, hP, hK, hD, hN, hS⟩, hG⟩ := hv
  subst hsz
  have hts : ∀ w ∈ TB, w.before av.toArray s = true := fun w hw => atoms_spec (ws := Cond.codeWith y bytes maxL ret hh :: TB) B.pre w (List.mem_cons_of_mem _ hw)
  have htab : c.exceptionTable.toList = tableOf hh := vx_table (x := y) B (atoms_spec (ws := Cond.codeWith y bytes maxL ret hh :: TB) B.pre _ List.mem_cons_self)
  have hx := body ((p, l, e, { frames := fr, cells := mc, slots := ms, locals := lo }, s), (m, av.toArray, below, meth, c), (g, va_A ws s.heap.size, maxL, MQ below (cQ g ws s.heap.size Post) av.toArray s mc ms (va_A ws s.heap.size))) rfl rfl
    ⟨B.exec, B.bytes, hml, findClass_of_methodNamed B.named, hts, hK, hN, hS, fun q h => Or.inr h, ⟨Nat.le_refl _, Nat.le_refl _, Nat.le_refl _, Nat.le_refl _⟩, rfl⟩
    ⟨B.returns, B.notSynchronized, rfl, rfl⟩ hG htab
  have hl := lv_entry av hav
  rw [hlv] at hl
  rw [lg_entry_eq]
  exact hx s.heap [] _ hP (hD.self (sz := s.heap.size)) va_S.rf hl
section JRows7
variable {x : XX} {cc : ByteArray} {own : String} {fr lo mc ms nL ck sk pc : Nat} {lv : List (Nat × Value)} {st : List Value} {ws : va_W}
theorem gotP_at {av : List Value} {wc : va_W} {H : Heap} {locs : List Loc} {sa : Nat} (B : JB x cc own fr lo mc ms nL) (hX : gX sa x.A x.s x.s.heap) (hP : va_P x.g.1 vwCl ws H) (hD : va_D x.A ws) (hS : va_S x.A x.s.heap H locs) (isC : List Nat) (hnC : va_nd isC = true) (hC : isC.map (fun i => ws[i]?) = wc.map some) :
    ∀ U : State, U.heap = H → x.s.WarmedH U.vm → gotP x.g av wc H.size sa av.toArray U := by
  intro U hU hW
  have hFc : ∀ q, va_A wc H.size q → x.A q := va_free hD hS B.2.2.2.2.2.2.2.2.1 isC hC
  refine ⟨cP_at B hP hD hS isC hnC hC U hU hW, ?_⟩
  rw [hU]
  exact gX.narrow (gX.warm hW (gX.kept hX (fun a h h2 => hS.2.1 a h h2))) hFc
theorem j_callVX (B : JB x cc own fr lo mc ms nL) {sa : Nat} (hX : gX sa x.A x.s x.s.heap) {i : Nat} {y : MethodName} {bytes : ByteArray} {maxL n : Nat} {ret : Option FieldType} {fr' lo' mc' ms' : Nat} {b : Nat} {As rest : List Value} {wc wr : va_W} {N : Prop} {Post : Option Value → va_W → Prop} (hy : CY y bytes maxL ret n) (hin : Cond.instanceMethod y ∈ TB) (hse : Cond.selects y.cls y y ∈ TB) (hl0 : Cond.methodLink own i y ∈ TB)
    (hM : CtrX x.l x.g sa y bytes maxL ret fr' lo' mc' ms' (.ref b :: As) wc N Post) (qb ci : Nat) {q : vw_C} {fs : List Value} (hcq : vwCl[ci]? = some q) (hcy : q.1 = y.cls) (hbe : ws[qb]? = some (b, .inr (ci, fs)))
    (isC isR : List Nat) (hnC : va_nd isC = true) (hC : isC.map (fun i => ws[i]?) = wc.map some) (hR : isR.map (fun i => ws[i]?) = wr.map some) (hn : va_nd isR = true) (hdis : ∀ i ∈ isR, i ∉ isC)
    (hst : st = As.reverse ++ .ref b :: rest) (hlen : As.length = n) (hrm : (rest.map fun v => v.category).sum ≤ 8) (hroom : fr' + 1 ≤ fr ∧ 8 + (maxL + 11) + lo' ≤ lo ∧ ck + mc' ≤ mc ∧ sk + ms' ≤ ms) (d : decode cc pc = .ok (.invokevirtual i, 3))
    {hpc ct : Nat} {tb : ExceptionTableEntry} (htab : x.c.exceptionTable.toList = [tb]) (hcov : covers tb pc = true) (hct : tb.catchType = ct) (hct0 : ct ≠ 0) (hhp : tb.handlerPc = hpc) (wl : Cond.classLink own ct EXN ∈ TB) (wx : Cond.castable EXN EXN ∈ XW)
    (kx : N → ∀ q9 : Nat, JW x (ck + mc') (sk + ms') hpc lv [.ref q9] (wr ++ wc))
    (kk : ∀ (v : Option Value) (w1 : va_W), Post v w1 → JW x (ck + mc') (sk + ms') (pc + 3) lv (v.toList ++ rest) (wr ++ w1)) : JW x ck sk pc lv st ws := by
  intro H locs ls hP hD hS hl
  have ok : ∀ w ∈ TB, w.before x.args x.s = true := B.2.2.2.2.1
  obtain ⟨r1, r2, r3, r4⟩ := B.2.2.2.2.2.2.2.2.2.1
  have hrv := va_recv B.2.2.2.2.2.1 hP hcq hbe
  rw [hcy] at hrv
  have hr := vx_runV (p := x.p) (l := x.l) (e := x.e) (R := x.R) (below := x.below) (meth := x.meth) (locs := locs) (cells := ck) (slots := sk) (g := F0 x.m pc ls st) (As := As) (rest := rest) (b := b) (C := y.cls) (Ts := TB) (own := own) (index := i) ⟨B.1, B.2.1, B.2.2.1.trans B.2.2.2.2.2.2.2.2.2.2.symm, B.2.2.2.1, ok⟩ (hM H.size)
    ⟨callB_of n ok (TB_good hy) rfl rfl rfl (ok _ hy.2.1) (ok _ hl0) hy.2.2 ⟨Nat.le_trans hroom.1 r1, Nat.le_trans hroom.2.1 r2⟩, ok _ hin, ok _ hse⟩
    ⟨gotP_blind _ _ _ _ _, hrv, gotP_at B hX hP hD hS isC hnC hC⟩ rfl hlen hl.1 hst (lv_room hrm) d ⟨Nat.le_trans hroom.2.2.1 r3, Nat.le_trans hroom.2.2.2 r4⟩
  have hFc : ∀ q, va_A wc H.size q → x.A q := va_free hD hS B.2.2.2.2.2.2.2.2.1 isC hC
  intro T hT X
  rcases hr T hT X with ⟨v, st₀, t, T', L, h0, X', hL, e1, e2, ⟨⟨v', w1, hv, hp, hP1, hD1⟩, hz, hk⟩, stp⟩ | ⟨q9, st₀, t, T', L, E, ce, h0, X', hL, e1, e2, ⟨⟨hE, hNN⟩, hP1, hD1, hz, hk⟩, hce, hcv, hcl, stp⟩
  · cases hv
    rw [h0] at hz hk
    rw [← e1] at hP1 hz hk
    obtain ⟨hPj, hDj⟩ := va_join hP hD isC isR hC hR hn hdis hk hFc hP1 hD1
    have hS1 : va_S x.A x.s.heap T'.heap (locs ++ L) := ⟨Nat.le_trans hS.1 hz, fun q h1 h2 => by rw [hk q (Nat.lt_of_lt_of_le h1 hS.1) (fun z => h2 (hFc q z))]; exact hS.2.1 q h1 h2, fun q hq => by
      rcases List.mem_append.mp hq with h | h
      · exact hS.2.2 q h
      · exact hFc _ (hL q h)⟩
    obtain ⟨t2, a1, b1⟩ := kk v w1 hp T'.heap (locs ++ L) ls hPj hDj hS1 hl T' rfl X'
    exact ⟨t2, stp t2 a1, b1⟩
  · rw [h0] at hz hk
    rw [← e1] at hP1 hz hk hce
    obtain ⟨hPj, hDj⟩ := va_join hP hD isC isR hC hR hn hdis hk hFc hP1 hD1
    have hS1 : va_S x.A x.s.heap T'.heap (locs ++ L) := ⟨Nat.le_trans hS.1 hz, fun q h1 h2 => by rw [hk q (Nat.lt_of_lt_of_le h1 hS.1) (fun z => h2 (hFc q z))]; exact hS.2.1 q h1 h2, fun q hq => by
      rcases List.mem_append.mp hq with h | h
      · exact hS.2.2 q h
      · exact hFc _ (hL q h)⟩
    subst hE
    obtain ⟨vm9, X9, st9⟩ := mq_caught X' q9 (g := F0 x.m pc ls rest) (x := tb) (own := own) (name := EXN) (E := EXN) rfl htab hcov (by rw [hct]; exact hct0) hce hcv hcl B.2.2.2.1 (by rw [hct]; exact ok _ wl) (va_Nw.use rfl (hX.1 _ wx))
    rw [hhp] at st9
    obtain ⟨t2, a1, b1⟩ := kx hNN q9 T'.heap (locs ++ L) ls hPj hDj hS1 hl (T'.setVm vm9) rfl X9
    exact ⟨t2, stp.trans (st9.trans a1), b1⟩
theorem j_callSH (B : JB x cc own fr lo mc ms nL) {sa : Nat} (hX : gX sa x.A x.s x.s.heap) {i : Nat} {y : MethodName} {bytes : ByteArray} {maxL n : Nat} {ret : Option FieldType} {hh : List (Nat × Nat × Nat × Nat)} {fr' lo' mc' ms' : Nat} {As rest : List Value} {wc wr : va_W} {Post : Option Value → va_W → Prop} (wcode : Cond.codeWith y bytes maxL ret hh ∈ TB) (wini : Cond.initialized y.cls ∈ TB) (hy : y.cls ≠ "java/lang/invoke/MethodHandle" ∧ y.cls ≠ "java/lang/invoke/VarHandle" ∧ (parseMethodDescriptor y.desc).map (fun d => d.parameters.length) = some n) (hse : Cond.static y ∈ TB) (hl0 : Cond.methodLink own i y ∈ TB)
    (hM : CtrH x.l x.g sa y bytes maxL ret hh fr' lo' mc' ms' As wc Post)
    (isC isR : List Nat) (hnC : va_nd isC = true) (hC : isC.map (fun i => ws[i]?) = wc.map some) (hR : isR.map (fun i => ws[i]?) = wr.map some) (hn : va_nd isR = true) (hdis : ∀ i ∈ isR, i ∉ isC)
    (hst : st = As.reverse ++ rest) (hlen : As.length = n) (hrm : (rest.map fun v => v.category).sum ≤ 8) (hroom : fr' + 1 ≤ fr ∧ 8 + (maxL + 11) + lo' ≤ lo ∧ ck + mc' ≤ mc ∧ sk + ms' ≤ ms) (d : decode cc pc = .ok (.invokestatic i, 3))
    (kk : ∀ (v : Option Value) (w1 : va_W), Post v w1 → JW x (ck + mc') (sk + ms') (pc + 3) lv (v.toList ++ rest) (wr ++ w1)) : JW x ck sk pc lv st ws := by
  intro H locs ls hP hD hS hl
  have ok : ∀ w ∈ TB, w.before x.args x.s = true := B.2.2.2.2.1
  obtain ⟨r1, r2, r3, r4⟩ := B.2.2.2.2.2.2.2.2.2.1
  refine j_after (y := y) (bytes := bytes) (maxL := maxL) (ret := ret) (g := F0 x.m pc ls st) (a := As.toArray) B hP hD hS hl isC isR hC hR hn hdis ?_ kk
  have hgw : ∀ w ∈ Cond.codeWith y bytes maxL ret hh :: TB, w ∈ TB := fun w hw => (List.mem_cons.mp hw).elim (fun e => by rw [e]; exact wcode) id
  refine vx_runSW (As := As) (rest := rest) (Ts := TB) (hh := hh) (bytes := bytes) (maxL := maxL) (ret := ret) ⟨B.1, B.2.1, B.2.2.1.trans B.2.2.2.2.2.2.2.2.2.2.symm, B.2.2.2.1, ok⟩ (hM H.size)
    ⟨⟨rfl, rfl, Nat.le_trans hroom.1 r1, Nat.le_trans hroom.2.1 r2, fun w hw a' U hW => word_at hW (good_of_word (List.mem_filter.mp (hgw w hw)).2) (ok _ (hgw w hw)), List.mem_cons_self⟩, ok _ wcode, ok _ wini, ⟨hy.1, hy.2.1⟩, fun sig h => ?_, ok _ hl0, ok _ hse⟩
    ⟨gotP_blind _ _ _ _ _, gotP_at B hX hP hD hS isC hnC hC⟩ rfl hlen hl.1 hst (lv_room hrm) d ⟨Nat.le_trans hroom.2.2.1 r3, Nat.le_trans hroom.2.2.2 r4⟩
  have h2 := hy.2.2
  rw [h] at h2
  exact (Option.some.inj h2).symm
end JRows7
