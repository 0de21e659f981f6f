theorem v_J0 : Cond.instantiable RJ0 4 ∈ TB := tb_4 90 rfl rfl
theorem v_Jx00060 : Cond.instantiable RJx00060 6 ∈ TB := tb_4 23 rfl rfl
set_option maxRecDepth 100000 in
theorem st_cl {b : Nat} {s : State} (hTB : ∀ w ∈ TB, w.before #[Value.ref b] s = true) : ∃ D : va_G, ∀ (c : Nat) (q : vw_C), vwCl[c]? = some q → u_Kn s q.1 q.2.1 q.2.2 (D.1 c) (D.2 c) := by
  have h : ∀ c : Nat, ∃ y : ClassId × (Nat → Nat), ∀ q : vw_C, vwCl[c]? = some q → u_Kn s q.1 q.2.1 q.2.2 y.1 y.2 := by
    intro c
    match c with
    | 0 => obtain ⟨cC, iS, hk⟩ := u_known (C := RJ0) (T := TJ0) (N := 2) (n := 4) hTB in_J0 (hTB _ v_J0); exact ⟨(cC, iS), fun q hq => by cases hq; exact hk⟩
    | 1 => obtain ⟨cC, iS, hk⟩ := u_known (C := RJx00060) (T := TJx00060) (N := 6) (n := 6) hTB in_Jx00060 (hTB _ v_Jx00060); exact ⟨(cC, iS), fun q hq => by cases hq; exact hk⟩
    | 2 => obtain ⟨cC, iS, hk⟩ := u_known (C := RX0) (T := TX0) (N := 4) (n := 4) hTB in_X0 (hTB _ v_X0); exact ⟨(cC, iS), fun q hq => by cases hq; exact hk⟩
    | 3 => obtain ⟨cC, iS, hk⟩ := u_known (C := RX1) (T := TX1) (N := 3) (n := 3) hTB in_X1 (hTB _ v_X1); exact ⟨(cC, iS), fun q hq => by cases hq; exact hk⟩
    | 4 => obtain ⟨cC, iS, hk⟩ := u_known (C := RX2) (T := TX2) (N := 9) (n := 9) hTB in_X2 (hTB _ v_X2); exact ⟨(cC, iS), fun q hq => by cases hq; exact hk⟩
    | 5 => obtain ⟨cC, iS, hk⟩ := u_known (C := RX3) (T := TX3) (N := 2) (n := 2) hTB in_X3 (hTB _ v_X3); exact ⟨(cC, iS), fun q hq => by cases hq; exact hk⟩
    | 6 => obtain ⟨cC, iS, hk⟩ := u_known (C := RX4) (T := TX4) (N := 7) (n := 7) hTB in_X4 (hTB _ v_X4); exact ⟨(cC, iS), fun q hq => by cases hq; exact hk⟩
    | 7 => obtain ⟨cC, iS, hk⟩ := u_known (C := RX5) (T := TX5) (N := 6) (n := 6) hTB in_X5 (hTB _ v_X5); exact ⟨(cC, iS), fun q hq => by cases hq; exact hk⟩
    | 8 => obtain ⟨cC, iS, hk⟩ := u_known (C := RX6) (T := TX6) (N := 7) (n := 7) hTB in_X6 (hTB _ v_X6); exact ⟨(cC, iS), fun q hq => by cases hq; exact hk⟩
    | 9 => obtain ⟨cC, iS, hk⟩ := u_known (C := RX7) (T := TX7) (N := 5) (n := 5) hTB in_X7 (hTB _ v_X7); exact ⟨(cC, iS), fun q hq => by cases hq; exact hk⟩
    | 10 => obtain ⟨cC, iS, hk⟩ := u_known (C := RX8) (T := TX8) (N := 6) (n := 6) hTB in_X8 (hTB _ v_X8); exact ⟨(cC, iS), fun q hq => by cases hq; exact hk⟩
    | 11 => obtain ⟨cC, iS, hk⟩ := u_known (C := RX9) (T := TX9) (N := 4) (n := 4) hTB in_X9 (hTB _ v_X9); exact ⟨(cC, iS), fun q hq => by cases hq; exact hk⟩
    | 12 => obtain ⟨cC, iS, hk⟩ := u_known (C := RX10) (T := TX10) (N := 4) (n := 4) hTB in_X10 (hTB _ v_X10); exact ⟨(cC, iS), fun q hq => by cases hq; exact hk⟩
    | 13 => obtain ⟨cC, iS, hk⟩ := u_known (C := RX11) (T := TX11) (N := 10) (n := 10) hTB in_X11 (hTB _ v_X11); exact ⟨(cC, iS), fun q hq => by cases hq; exact hk⟩
    | 14 => obtain ⟨cC, iS, hk⟩ := u_known (C := RX12) (T := TX12) (N := 38) (n := 38) hTB in_X12 (hTB _ v_X12); exact ⟨(cC, iS), fun q hq => by cases hq; exact hk⟩
    | k + 15 => exact ⟨(0, fun _ => 0), fun q hq => by (have h9 : vwCl[k + 15]? = none := rfl); rw [h9] at hq; cases hq⟩
  obtain ⟨f, hf⟩ := Classical.axiomOfChoice h
  exact ⟨(fun c => (f c).1, fun c => (f c).2), fun c q hq => hf c q hq⟩
theorem st_arr {b : Nat} {s : State} (hts : ∀ w ∈ lw_tbl, w.before #[Value.ref b] s = true) (hTB : ∀ w ∈ TB, w.before #[Value.ref b] s = true) : ∃ f : Nat → ClassId, ∀ (k : Nat) (q : ClassId × FieldType), [(f 0, FieldType.int), (f 1, .long), (f 2, .array .int), (f 3, .object "SamplePacks$RowForm")][k]? = some q → ArrOfT s q.1 q.2 ∧ va_RA s q.1 q.2 := by
  obtain ⟨c0, k0, p0, a0, b0, d0⟩ := Cond.arrayClass_spec (hTB _ ac_I)
  obtain ⟨c1, k1, p1, a1, b1, d1⟩ := Cond.arrayClass_spec (hTB _ ac_L)
  obtain ⟨p2, c2, k2, e2, -, b2, d2, a2⟩ := arrayOverA_spec (t := .int) (hts (.arrayOver (.array .int)) (by decide +kernel))
  obtain ⟨p3, c3, k3, e3, i3, b3, d3, a3⟩ := Cond.arrayOver_spec (hts (.arrayOver (.object "SamplePacks$RowForm")) (by decide +kernel))
  refine ⟨fun k => if k = 0 then c0 else if k = 1 then c1 else if k = 2 then c2 else c3, fun k q hq => ?_⟩
  match k, hq with
  | 0, hq => cases hq; exact ⟨fun n z => ⟨fun k h => (by cases h), k0, b0, p0, d0⟩, a0⟩
  | 1, hq => cases hq; exact ⟨fun n z => ⟨fun k h => (by cases h), k1, b1, p1, d1⟩, a1⟩
  | 2, hq => cases hq; exact ⟨fun n z => ⟨fun k h => (by cases h), k2, b2, p2, d2⟩, a2⟩
  | 3, hq => cases hq; exact ⟨fun n z => ⟨fun k h => (by cases h), k3, b3, p3, d3⟩, k3, p3, b3, d3, e3, a3⟩
  | k + 4, hq => cases hq
theorem st_N {b : Nat} {s : State} (hts : ∀ w ∈ lw_tbl, w.before #[Value.ref b] s = true) : gN s := by
  intro w hw
  have h := hts w (List.mem_filter.mp hw).1
  have h2 : isNest w = true := (List.mem_filter.mp hw).2
  cases w <;> first | exact va_Nw.of rfl h | cases h2
theorem st_tab {b N : Nat} {s : State} {nm : String} {f : Nat → Int} {A : Nat → Prop} (hA : ∀ a : Nat, a < s.heap.size → ¬ A a) (hN : N < 1000) (hl : (Cond.laysStatic "SamplePacks" nm "[I").before #[Value.ref b] s = true) (hz : (Cond.initialized "SamplePacks").before #[Value.ref b] s = true) (ha : (Cond.arrayOf (.static "SamplePacks" nm "[I") .int).before #[Value.ref b] s = true) (hn : (Cond.eq (.length (.static "SamplePacks" nm "[I")) (.int (Int32.ofNat N))).before #[Value.ref b] s = true) (he : ∀ j : Nat, j < N → (Cond.eq (.elem (.static "SamplePacks" nm "[I") (.int (Int32.ofNat j))) (.int (iI (f j)))).before #[Value.ref b] s = true) :
    ∃ t : Nat, va_Z "SamplePacks" nm "[I" (.ref t) A s s.heap ∧ va_T .int t N (fun k => .int (iI (f k))) A s s.heap := by
  obtain ⟨t, ht, hT⟩ := va_Tof (f := fun k => .int (iI (f k))) (A := A) (by omega) ha (va_eqt hn) (fun j hj => va_eqt (he j hj)) hA
  exact ⟨t, va_Zof hl hz ht hA, hT⟩
theorem st_S {b : Nat} {s : State} {A : Nat → Prop} (hA : ∀ a : Nat, a < s.heap.size → ¬ A a) (hts : ∀ w ∈ lw_tbl, w.before #[Value.ref b] s = true) (hTB : ∀ w ∈ TB, w.before #[Value.ref b] s = true) (hgv : (Jvm.Cond.and given_1 narrow_1).before #[Value.ref b] s = true) (D : va_G) (cf : Nat → ClassId) : ∃ t : Nat → Nat, gS (D, cf, t) A s s.heap := by
  have hs := flat_of_before _ hgv
  have hz := hTB _ z_X11
  obtain ⟨t0, h0⟩ := st_tab (N := 4) (nm := "FIRST_ROW") (f := zFirst) hA (by decide) (hts (.laysStatic "SamplePacks" "FIRST_ROW" "[I") (by decide +kernel)) hz (hs (.arrayOf (.static "SamplePacks" "FIRST_ROW" "[I") .int) (by decide +kernel)) (hs (.eq (.length (.static "SamplePacks" "FIRST_ROW" "[I")) (.int 4)) (by decide +kernel)) (fun j hj => by
    rcases (show j = 0 ∨ j = 1 ∨ j = 2 ∨ j = 3 by omega) with e | e | e | e <;> (subst e; exact hs _ (by decide +kernel)))
  obtain ⟨t1, h1⟩ := st_tab (N := 4) (nm := "SECOND_ROW") (f := zSecond) hA (by decide) (hts (.laysStatic "SamplePacks" "SECOND_ROW" "[I") (by decide +kernel)) hz (hs (.arrayOf (.static "SamplePacks" "SECOND_ROW" "[I") .int) (by decide +kernel)) (hs (.eq (.length (.static "SamplePacks" "SECOND_ROW" "[I")) (.int 4)) (by decide +kernel)) (fun j hj => by
    rcases (show j = 0 ∨ j = 1 ∨ j = 2 ∨ j = 3 by omega) with e | e | e | e <;> (subst e; exact hs _ (by decide +kernel)))
  obtain ⟨t2, h2⟩ := st_tab (N := 20) (nm := "FIXED_COEFFICIENTS") (f := zFixed) hA (by decide) (hts (.laysStatic "SamplePacks" "FIXED_COEFFICIENTS" "[I") (by decide +kernel)) hz (hs (.arrayOf (.static "SamplePacks" "FIXED_COEFFICIENTS" "[I") .int) (by decide +kernel)) (hs (.eq (.length (.static "SamplePacks" "FIXED_COEFFICIENTS" "[I")) (.int 20)) (by decide +kernel)) (fun j hj => by
    rcases (show j = 0 ∨ j = 1 ∨ j = 2 ∨ j = 3 ∨ j = 4 ∨ j = 5 ∨ j = 6 ∨ j = 7 ∨ j = 8 ∨ j = 9 ∨ j = 10 ∨ j = 11 ∨ j = 12 ∨ j = 13 ∨ j = 14 ∨ j = 15 ∨ j = 16 ∨ j = 17 ∨ j = 18 ∨ j = 19 by omega) with e | e | e | e | e | e | e | e | e | e | e | e | e | e | e | e | e | e | e | e <;> (subst e; exact hs _ (by decide +kernel)))
  exact ⟨fun k => if k = 0 then t0 else if k = 1 then t1 else t2, h0, h1, h2⟩
theorem st_X {b : Nat} {s : State} {A : Nat → Prop} (hA : ∀ a : Nat, a < s.heap.size → ¬ A a) (hts : ∀ w ∈ lw_tbl, w.before #[Value.ref b] s = true) (hTB : ∀ w ∈ TB, w.before #[Value.ref b] s = true) (hgv : (Jvm.Cond.and given_1 narrow_1).before #[Value.ref b] s = true) : ∃ sa : Nat, gX sa A s s.heap := by
  have hs := flat_of_before _ hgv
  have hst := hts (.stringRef RX11 187 "no such sample was shown") (by decide +kernel)
  obtain ⟨cC, kC, hfc, -⟩ := Cond.instantiable_spec (hTB _ v_X11)
  obtain ⟨k, cf, i, a, h1, h2, h3, h4, h5, h6⟩ := Cond.stringRef_spec hfc hst
  have hm : ∀ w ∈ XW, w ∈ lw_tbl := by decide +kernel
  refine ⟨a, fun w hw => ?_, vk_R.of hst h6, vx_Zqof (hts (.laysStatic Bundle.tN "UNASSIGNED_STACK" Bundle.steD) (by decide +kernel)) (hts (.initialized Bundle.tN) (by decide +kernel)) (hs (.isRef (.static Bundle.tN "UNASSIGNED_STACK" Bundle.steD)) (by decide +kernel)) hA, vx_Zqof (hts (.laysStatic Bundle.tN "SUPPRESSED_SENTINEL" Bundle.listD) (by decide +kernel)) (hts (.initialized Bundle.tN) (by decide +kernel)) (hs (.isRef (.static Bundle.tN "SUPPRESSED_SENTINEL" Bundle.listD)) (by decide +kernel)) hA⟩
  have h := hts w (hm w hw)
  have h2 := XW_dc w hw
  cases w <;> first | exact va_Nw.of rfl h | cases h2
