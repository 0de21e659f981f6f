set_option maxHeartbeats 4000000 in
set_option maxRecDepth 100000 in
theorem C_X9_fillRow (l : Launch) (g : GG) (h0 s0 x0 hv : Nat) (n b val : Int) (v : Int → Int) (hn : 0 ≤ n ∧ n ≤ 400) : Ctr l g yX9_fillRow cX9_fillRow 4 none 0 0 0 0 [.ref h0, .ref hv, .int (iI val)] [(h0, oX9 s0 x0 n b), (hv, aI g 400 v)] (fun vv ww => ∃ (v2 : Int → Int), vv = none ∧ ww = [(h0, oX9 s0 x0 n b), (hv, aI g 400 v2)] ∧ ∀ j, 0 ≤ j → j < n → v2 j = val) := by
  refine Ctr.of [(0, .ref h0), (1, .ref hv), (2, .int (iI val))] (by decide) (Nat.le_of_ble_eq_true rfl) rfl ?_
  intro x hxl hxg jb jr hin
  subst hxl; subst hxg
  refine j_iconst jb dX9_fillRow_0 ?_
  refine j_istore_n (lv' := [(3, .int (iI 0)), (0, .ref h0), (1, .ref hv), (2, .int (iI val))]) jb dX9_fillRow_1 rfl (by decide) rfl ?_
  have L2 : ∀ (fu : Nat) (i : Int) (v1 : Int → Int), (0 ≤ i ∧ i ≤ n ∧ ∀ j, 0 ≤ j → j < i → v1 j = val) → (n - i).toNat < fu → JW x 0 0 2 [(0, .ref h0), (1, .ref hv), (2, .int (iI val)), (3, .int (iI i))] [] [(h0, oX9 s0 x0 n b), (hv, aI x.g 400 v1)] := by
    intro fu
    induction fu with
    | zero => intro i v1 _ hm; exact absurd hm (by omega)
    | succ fu ih =>
      intro i v1 ⟨hi1, hi2, hi3⟩ hm2
      have ih2 := ih
      clear ih
      refine j_iload_n jb dX9_fillRow_2 3 rfl ?_
      refine j_aload_n jb dX9_fillRow_3 0 rfl ?_
      refine j_get jb f_X9_22 dX9_fillRow_4 0 rfl rfl ?_
      refine j_icmp_ge (tgt := 20) jb dX9_fillRow_7 (by decide) (by omega) (by omega) (fun c_7 => ?_) (fun c_7 => ?_)
      · skip
        refine j_norm (lv' := []) (st' := []) (ws' := [(h0, oX9 s0 x0 n b), (hv, aI x.g 400 v1)]) [] [0, 1] rfl rfl (by decide) rfl ?_
        exact j_vret jb jr dX9_fillRow_20 ⟨_, rfl, rfl, (fun j h1 h2 => hi3 j h1 (by omega))⟩
      · skip
        refine j_aload_n jb dX9_fillRow_10 1 rfl ?_
        refine j_iload_n jb dX9_fillRow_11 3 rfl ?_
        refine j_iload_n jb dX9_fillRow_12 2 rfl ?_
        refine j_iast (ws' := [(h0, oX9 s0 x0 n b), (hv, aI x.g 400 (zup v1 i val))]) jb dX9_fillRow_13 1 rfl (by omega) (by decide) rfl ?_
        refine j_iinc (lv' := [(3, .int (iI (i + 1))), (0, .ref h0), (1, .ref hv), (2, .int (iI val))]) jb dX9_fillRow_14 3 rfl (by decide) rfl ?_
        refine j_goto (tgt := 2) jb dX9_fillRow_17 (by decide) ?_
        refine j_norm (lv' := [(0, .ref h0), (1, .ref hv), (2, .int (iI val)), (3, .int (iI (i + 1)))]) (st' := []) (ws' := [(h0, oX9 s0 x0 n b), (hv, aI x.g 400 (zup v1 i val))]) [1, 2, 3, 0] [0, 1] rfl rfl (by decide) rfl ?_
        exact ih2 (i + 1) (zup v1 i val) ⟨by omega, by omega, fun j h1 h2 => by (by_cases e : j = i); { rw [e, zup_s] }; { rw [zup_n e]; exact hi3 j h1 (by omega) }⟩ (by omega)
  refine j_norm (lv' := [(0, .ref h0), (1, .ref hv), (2, .int (iI val)), (3, .int (iI 0))]) (st' := []) (ws' := [(h0, oX9 s0 x0 n b), (hv, aI x.g 400 v)]) [1, 2, 3, 0] [0, 1] rfl rfl (by decide) rfl ?_
  exact L2 _ 0 v ⟨by decide, hn.1, fun j h1 h2 => by omega⟩ (Nat.lt_succ_self _)

set_option maxHeartbeats 4000000 in
set_option maxRecDepth 100000 in
theorem C_X9_readValues (l : Launch) (g : GG) (h0 s0 h1 x0 hv : Nat) (n b len fa pos cnt : Int) (B v : Int → Int) (hc : 0 ≤ cnt ∧ cnt ≤ 400) (hb : 1 ≤ b ∧ b ≤ 17) (hB : isBytes B) (hl : 0 ≤ len ∧ len ≤ 2400) (hfa : 0 ≤ fa ∧ fa ≤ 20) (hp : 0 ≤ pos ∧ pos ≤ 8 * len) : Ctr l g yX9_readValues cX9_readValues 4 none 3 90 0 0 [.ref h0, .ref hv, .int (iI cnt)] [(h0, oX9 s0 x0 n b), (s0, oX0 h1 len fa pos), (h1, aI g 2400 B), (hv, aI g 400 v)] (fun vv ww => ∃ (fa2 pos2 : Int) (v2 : Int → Int), vv = none ∧ ww = [(h0, oX9 s0 x0 n b), (s0, oX0 h1 len fa2 pos2), (h1, aI g 2400 B), (hv, aI g 400 v2)] ∧ isR (sR fa (valsR B len b cnt.toNat 0 pos v)) fa2 pos2 v2 ∧ (0 ≤ fa2 ∧ fa2 ≤ 20) ∧ (0 ≤ pos2 ∧ pos2 ≤ 8 * len) ∧ fitOn v2 b cnt) := by
  refine Ctr.of [(0, .ref h0), (1, .ref hv), (2, .int (iI cnt))] (by decide) (Nat.le_of_ble_eq_true rfl) rfl ?_
  intro x hxl hxg jb jr hin
  subst hxl; subst hxg
  obtain ⟨R0, hR0⟩ : ∃ R : RR, R = sR fa (valsR B len b cnt.toNat 0 pos v) := ⟨_, rfl⟩
  have hc0 : contI R0 fa (valsR B len b cnt.toNat 0 pos v) := by (rw [hR0]; exact cI_s _ _)
  refine j_iconst jb dX9_readValues_0 ?_
  refine j_istore_n (lv' := [(3, .int (iI 0)), (0, .ref h0), (1, .ref hv), (2, .int (iI cnt))]) jb dX9_readValues_1 rfl (by decide) rfl ?_
  have L2 : ∀ (fu : Nat) (i f1 p : Int) (v1 : Int → Int), (0 ≤ i ∧ i ≤ cnt ∧ (0 ≤ f1 ∧ f1 ≤ 20) ∧ (0 ≤ p ∧ p ≤ 8 * len) ∧ contI R0 f1 (valsR B len b (cnt - i).toNat i p v1) ∧ fitOn v1 b i) → (cnt - i).toNat < fu → JW x 0 0 2 [(0, .ref h0), (1, .ref hv), (2, .int (iI cnt)), (3, .int (iI i))] [] [(h0, oX9 s0 x0 n b), (s0, oX0 h1 len f1 p), (h1, aI x.g 2400 B), (hv, aI x.g 400 v1)] := by
    intro fu
    induction fu with
    | zero => intro i f1 p v1 _ hm; exact absurd hm (by omega)
    | succ fu ih =>
      intro i f1 p v1 ⟨hi1, hi2, hi3, hi4, hi5, hi6⟩ hm2
      have ih2 := ih
      clear ih
      refine j_iload_n jb dX9_readValues_2 3 rfl ?_
      refine j_iload_n jb dX9_readValues_3 2 rfl ?_
      refine j_icmp_ge (tgt := 27) jb dX9_readValues_4 (by decide) (by omega) (by omega) (fun c_4 => ?_) (fun c_4 => ?_)
      · skip
        refine j_norm (lv' := []) (st' := []) (ws' := [(h0, oX9 s0 x0 n b), (s0, oX0 h1 len f1 p), (h1, aI x.g 2400 B), (hv, aI x.g 400 v1)]) [] [0, 1, 2, 3] rfl rfl (by decide) rfl ?_
        exact j_vret jb jr dX9_readValues_27 ⟨_, _, _, rfl, rfl, (by rw [← hR0]; exact ⟨cI_end (valsR_0 hi5 (by omega)), hi3, hi4, fun j h1 h2 => hi6 j h1 (by omega)⟩)⟩
      · skip
        refine j_aload_n jb dX9_readValues_7 1 rfl ?_
        refine j_iload_n jb dX9_readValues_8 3 rfl ?_
        refine j_aload_n jb dX9_readValues_9 0 rfl ?_
        refine j_get jb f_X9_18 dX9_readValues_10 0 rfl rfl ?_
        refine j_aload_n jb dX9_readValues_13 0 rfl ?_
        refine j_get jb f_X9_36 dX9_readValues_14 0 rfl rfl ?_
        refine j_callV (wr := [(h0, oX9 s0 x0 n b), (hv, aI x.g 400 v1)]) jb k_X0_readSigned i_X0_readSigned s_X0_readSigned l_X9_39 (C_X0_readSigned x.l x.g s0 h1 B len f1 p b hB (by omega) (by omega) (by omega) (by omega)) 1 2 rfl rfl rfl [1, 2] [0, 3] (by decide) rfl rfl (by decide) (by decide) rfl rfl (Nat.le_of_ble_eq_true rfl) (by decide) dX9_readValues_17 (fun v w hp => ?_)
        obtain ⟨r1, f2, p2, rfl, rfl, h17⟩ := hp
        refine j_norm (lv' := [(0, .ref h0), (1, .ref hv), (2, .int (iI cnt)), (3, .int (iI i))]) (st' := [.int (iI r1), .int (iI i), .ref hv]) (ws' := [(h0, oX9 s0 x0 n b), (s0, oX0 h1 len f2 p2), (h1, aI x.g 2400 B), (hv, aI x.g 400 v1)]) [0, 1, 2, 3] [0, 2, 3, 1] rfl rfl (by decide) rfl ?_
        refine j_iast (ws' := [(h0, oX9 s0 x0 n b), (s0, oX0 h1 len f2 p2), (h1, aI x.g 2400 B), (hv, aI x.g 400 (zup v1 i r1))]) jb dX9_readValues_20 3 rfl (by omega) (by decide) rfl ?_
        refine j_iinc (lv' := [(3, .int (iI (i + 1))), (0, .ref h0), (1, .ref hv), (2, .int (iI cnt))]) jb dX9_readValues_21 3 rfl (by decide) rfl ?_
        refine j_goto (tgt := 2) jb dX9_readValues_24 (by decide) ?_
        refine j_norm (lv' := [(0, .ref h0), (1, .ref hv), (2, .int (iI cnt)), (3, .int (iI (i + 1)))]) (st' := []) (ws' := [(h0, oX9 s0 x0 n b), (s0, oX0 h1 len f2 p2), (h1, aI x.g 2400 B), (hv, aI x.g 400 (zup v1 i r1))]) [1, 2, 3, 0] [0, 1, 2, 3] rfl rfl (by decide) rfl ?_
        exact ih2 (i + 1) f2 p2 (zup v1 i r1) ⟨by omega, by omega, by have := rd_fa h17; omega, rd_pos h17 (by omega) hi4, valsR_step hi5 (by omega) h17, fitOn_up hi6 (rd_sgn hb.1 h17)⟩ (by omega)
  refine j_norm (lv' := [(0, .ref h0), (1, .ref hv), (2, .int (iI cnt)), (3, .int (iI 0))]) (st' := []) (ws' := [(h0, oX9 s0 x0 n b), (s0, oX0 h1 len fa pos), (h1, aI x.g 2400 B), (hv, aI x.g 400 v)]) [1, 2, 3, 0] [0, 1, 2, 3] rfl rfl (by decide) rfl ?_
  exact L2 _ 0 fa pos v ⟨by decide, hc.1, hfa, hp, by rw [Int.sub_zero]; exact hc0, fun j h1 h2 => by omega⟩ (Nat.lt_succ_self _)

set_option maxHeartbeats 4000000 in
set_option maxRecDepth 100000 in
theorem C_X9_readCoefficients (l : Launch) (g : GG) (h0 s0 h1 x0 xc : Nat) (n b len fa pos o sh o2 : Int) (B cf : Int → Int) (ho : 0 ≤ o2 ∧ o2 ≤ 4) (hcf : cfOk cf) (hB : isBytes B) (hl : 0 ≤ len ∧ len ≤ 2400) (hfa : 0 ≤ fa ∧ fa ≤ 20) (hp : 0 ≤ pos ∧ pos ≤ 8 * len) : Ctr l g yX9_readCoefficients cX9_readCoefficients 3 none 3 90 0 0 [.ref h0, .int (iI o2)] [(h0, oX9 s0 x0 n b), (s0, oX0 h1 len fa pos), (h1, aI g 2400 B), (x0, oX1 xc o sh), (xc, aI g 4 cf)] (fun vv ww => ∃ (sh2 fa1 pos1 fa2 pos2 : Int) (c2 : Int → Int), vv = none ∧ ww = [(h0, oX9 s0 x0 n b), (s0, oX0 h1 len fa2 pos2), (h1, aI g 2400 B), (x0, oX1 xc o2 sh2), (xc, aI g 4 c2)] ∧ rdRel B len fa pos 4 sh2 fa1 pos1 (num B pos (4 : Int).toNat) ∧ isR (sR fa1 (valsR B len 10 o2.toNat 0 pos1 cf)) fa2 pos2 c2 ∧ (0 ≤ fa2 ∧ fa2 ≤ 20) ∧ (0 ≤ pos2 ∧ pos2 ≤ 8 * len) ∧ (0 ≤ sh2 ∧ sh2 ≤ 15) ∧ cfOk c2) := by
  refine Ctr.of [(0, .ref h0), (1, .int (iI o2))] (by decide) (Nat.le_of_ble_eq_true rfl) rfl ?_
  intro x hxl hxg jb jr hin
  subst hxl; subst hxg
  refine j_aload_n jb dX9_readCoefficients_0 0 rfl ?_
  refine j_get jb f_X9_12 dX9_readCoefficients_1 0 rfl rfl ?_
  refine j_iload_n jb dX9_readCoefficients_4 1 rfl ?_
  refine j_put (ws' := [(h0, oX9 s0 x0 n b), (s0, oX0 h1 len fa pos), (h1, aI x.g 2400 B), (x0, oX1 xc o2 sh), (xc, aI x.g 4 cf)]) jb f_X9_67 w_X1_1 rfl dX9_readCoefficients_5 3 rfl rfl rfl (Nat.le_of_ble_eq_true rfl) rfl ?_
  refine j_aload_n jb dX9_readCoefficients_8 0 rfl ?_
  refine j_get jb f_X9_12 dX9_readCoefficients_9 0 rfl rfl ?_
  refine j_aload_n jb dX9_readCoefficients_12 0 rfl ?_
  refine j_get jb f_X9_18 dX9_readCoefficients_13 0 rfl rfl ?_
  refine j_iconst jb dX9_readCoefficients_16 ?_
  refine j_callV (wr := [(h0, oX9 s0 x0 n b), (x0, oX1 xc o2 sh), (xc, aI x.g 4 cf)]) jb k_X0_read i_X0_read s_X0_read l_X9_26 (C_X0_read x.l x.g s0 h1 B len fa pos 4 hB (by omega) (by omega) (by decide) (by omega)) 1 2 rfl rfl rfl [1, 2] [0, 3, 4] (by decide) rfl rfl (by decide) (by decide) rfl rfl (Nat.le_of_ble_eq_true rfl) (by decide) dX9_readCoefficients_17 (fun v w hp => ?_)
  obtain ⟨sh2, fa1, pos1, rfl, rfl, h17⟩ := hp
  refine j_norm (lv' := [(0, .ref h0), (1, .int (iI o2))]) (st' := [.int (iI sh2), .ref x0]) (ws' := [(h0, oX9 s0 x0 n b), (s0, oX0 h1 len fa1 pos1), (h1, aI x.g 2400 B), (x0, oX1 xc o2 sh), (xc, aI x.g 4 cf)]) [0, 1] [0, 3, 4, 1, 2] rfl rfl (by decide) rfl ?_
  obtain ⟨R0, hR0⟩ : ∃ R : RR, R = sR fa1 (valsR B len 10 o2.toNat 0 pos1 cf) := ⟨_, rfl⟩
  have hc0 : contI R0 fa1 (valsR B len 10 o2.toNat 0 pos1 cf) := by (rw [hR0]; exact cI_s _ _)
  have hsh := rd_in (M := 16) h17 (num_in B pos (4 : Int).toNat)
  have hf1 := rd_fa h17
  have hp1 := rd_pos h17 (by decide) hp
  refine j_put (ws' := [(h0, oX9 s0 x0 n b), (s0, oX0 h1 len fa1 pos1), (h1, aI x.g 2400 B), (x0, oX1 xc o2 sh2), (xc, aI x.g 4 cf)]) jb f_X9_70 w_X1_2 rfl dX9_readCoefficients_20 3 rfl rfl rfl (Nat.le_of_ble_eq_true rfl) rfl ?_
  refine j_iconst jb dX9_readCoefficients_23 ?_
  refine j_istore_n (lv' := [(2, .int (iI 0)), (0, .ref h0), (1, .int (iI o2))]) jb dX9_readCoefficients_24 rfl (by decide) rfl ?_
  have L25 : ∀ (fu : Nat) (i f1 p : Int) (c1 : Int → Int), (0 ≤ i ∧ i ≤ o2 ∧ (0 ≤ f1 ∧ f1 ≤ 20) ∧ (0 ≤ p ∧ p ≤ 8 * len) ∧ contI R0 f1 (valsR B len 10 (o2 - i).toNat i p c1) ∧ cfOk c1) → (o2 - i).toNat < fu → JW x 0 0 25 [(0, .ref h0), (1, .int (iI o2)), (2, .int (iI i))] [] [(h0, oX9 s0 x0 n b), (s0, oX0 h1 len f1 p), (h1, aI x.g 2400 B), (x0, oX1 xc o2 sh2), (xc, aI x.g 4 c1)] := by
    intro fu
    induction fu with
    | zero => intro i f1 p c1 _ hm; exact absurd hm (by omega)
    | succ fu ih =>
      intro i f1 p c1 ⟨hi1, hi2, hi3, hi4, hi5, hi6⟩ hm25
      have ih25 := ih
      clear ih
      refine j_iload_n jb dX9_readCoefficients_25 2 rfl ?_
      refine j_iload_n jb dX9_readCoefficients_26 1 rfl ?_
      refine j_icmp_ge (tgt := 54) jb dX9_readCoefficients_27 (by decide) (by omega) (by omega) (fun c_27 => ?_) (fun c_27 => ?_)
      · skip
        refine j_norm (lv' := []) (st' := []) (ws' := [(h0, oX9 s0 x0 n b), (s0, oX0 h1 len f1 p), (h1, aI x.g 2400 B), (x0, oX1 xc o2 sh2), (xc, aI x.g 4 c1)]) [] [0, 1, 2, 3, 4] rfl rfl (by decide) rfl ?_
        exact j_vret jb jr dX9_readCoefficients_54 ⟨_, fa1, pos1, _, _, _, rfl, rfl, ⟨h17, by rw [← hR0]; exact cI_end (valsR_0 hi5 (by omega)), hi3, hi4, by omega, hi6⟩⟩
      · skip
        refine j_aload_n jb dX9_readCoefficients_30 0 rfl ?_
        refine j_get jb f_X9_12 dX9_readCoefficients_31 0 rfl rfl ?_
        refine j_get jb f_X9_73 dX9_readCoefficients_34 3 rfl rfl ?_
        refine j_iload_n jb dX9_readCoefficients_37 2 rfl ?_
        refine j_aload_n jb dX9_readCoefficients_38 0 rfl ?_
        refine j_get jb f_X9_18 dX9_readCoefficients_39 0 rfl rfl ?_
        refine j_bipush jb dX9_readCoefficients_42 (by decide) ?_
        refine j_callV (wr := [(h0, oX9 s0 x0 n b), (x0, oX1 xc o2 sh2), (xc, aI x.g 4 c1)]) jb k_X0_readSigned i_X0_readSigned s_X0_readSigned l_X9_39 (C_X0_readSigned x.l x.g s0 h1 B len f1 p 10 hB (by omega) (by omega) (by decide) (by omega)) 1 2 rfl rfl rfl [1, 2] [0, 3, 4] (by decide) rfl rfl (by decide) (by decide) rfl rfl (Nat.le_of_ble_eq_true rfl) (by decide) dX9_readCoefficients_44 (fun v w hp => ?_)
        obtain ⟨r1, f2, p2, rfl, rfl, h44⟩ := hp
        refine j_norm (lv' := [(0, .ref h0), (1, .int (iI o2)), (2, .int (iI i))]) (st' := [.int (iI r1), .int (iI i), .ref xc]) (ws' := [(h0, oX9 s0 x0 n b), (s0, oX0 h1 len f2 p2), (h1, aI x.g 2400 B), (x0, oX1 xc o2 sh2), (xc, aI x.g 4 c1)]) [0, 1, 2] [0, 3, 4, 1, 2] rfl rfl (by decide) rfl ?_
        refine j_iast (ws' := [(h0, oX9 s0 x0 n b), (s0, oX0 h1 len f2 p2), (h1, aI x.g 2400 B), (x0, oX1 xc o2 sh2), (xc, aI x.g 4 (zup c1 i r1))]) jb dX9_readCoefficients_47 4 rfl (by omega) (by decide) rfl ?_
        refine j_iinc (lv' := [(2, .int (iI (i + 1))), (0, .ref h0), (1, .int (iI o2))]) jb dX9_readCoefficients_48 2 rfl (by decide) rfl ?_
        refine j_goto (tgt := 25) jb dX9_readCoefficients_51 (by decide) ?_
        refine j_norm (lv' := [(0, .ref h0), (1, .int (iI o2)), (2, .int (iI (i + 1)))]) (st' := []) (ws' := [(h0, oX9 s0 x0 n b), (s0, oX0 h1 len f2 p2), (h1, aI x.g 2400 B), (x0, oX1 xc o2 sh2), (xc, aI x.g 4 (zup c1 i r1))]) [1, 2, 0] [0, 1, 2, 3, 4] rfl rfl (by decide) rfl ?_
        exact ih25 (i + 1) f2 p2 (zup c1 i r1) ⟨by omega, by omega, by have := rd_fa h44; omega, rd_pos h44 (by omega) hi4, valsR_step hi5 (by omega) h44, cf_up hi6 (rd_sgn (by decide) h44)⟩ (by omega)
  refine j_norm (lv' := [(0, .ref h0), (1, .int (iI o2)), (2, .int (iI 0))]) (st' := []) (ws' := [(h0, oX9 s0 x0 n b), (s0, oX0 h1 len fa1 pos1), (h1, aI x.g 2400 B), (x0, oX1 xc o2 sh2), (xc, aI x.g 4 cf)]) [1, 2, 0] [0, 1, 2, 3, 4] rfl rfl (by decide) rfl ?_
  exact L25 _ 0 fa1 pos1 cf ⟨by decide, ho.1, by omega, hp1, by rw [Int.sub_zero]; exact hc0, hcf⟩ (Nat.lt_succ_self _)

set_option maxHeartbeats 4000000 in
set_option maxRecDepth 100000 in
theorem C_X9_readPart (l : Launch) (g : GG) (h0 s0 h1 x0 xc hv : Nat) (n b len fa pos o sh fr to : Int) (B cf v : Int → Int) (hb : 1 ≤ b ∧ b ≤ 17) (ho : 0 ≤ o ∧ o ≤ 4) (hs : 0 ≤ sh ∧ sh ≤ 15) (hft : o ≤ fr ∧ fr ≤ to ∧ to ≤ 400) (hcf : cfOk cf) (hv9 : fa = 0 → fitOn v b fr) (hB : isBytes B) (hl : 0 ≤ len ∧ len ≤ 2400) (hfa : 0 ≤ fa ∧ fa ≤ 20) (hp : 0 ≤ pos ∧ pos ≤ 8 * len) : Ctr l g yX9_readPart cX9_readPart 9 none 3 90 0 0 [.ref h0, .ref hv, .int (iI fr), .int (iI to)] [(h0, oX9 s0 x0 n b), (s0, oX0 h1 len fa pos), (h1, aI g 2400 B), (x0, oX1 xc o sh), (xc, aI g 4 cf), (hv, aI g 400 v)] (fun vv ww => ∃ (fa2 pos2 : Int) (v2 : Int → Int), vv = none ∧ ww = [(h0, oX9 s0 x0 n b), (s0, oX0 h1 len fa2 pos2), (h1, aI g 2400 B), (x0, oX1 xc o sh), (xc, aI g 4 cf), (hv, aI g 400 v2)] ∧ isR (sR fa (partR B len b o sh cf fr to pos v)) fa2 pos2 v2 ∧ (0 ≤ fa2 ∧ fa2 ≤ 20) ∧ (0 ≤ pos2 ∧ pos2 ≤ 8 * len) ∧ (fa2 = 0 → fitOn v2 b to)) := by
  refine Ctr.of [(0, .ref h0), (1, .ref hv), (2, .int (iI fr)), (3, .int (iI to))] (by decide) (Nat.le_of_ble_eq_true rfl) rfl ?_
  intro x hxl hxg jb jr hin
  subst hxl; subst hxg
  obtain ⟨R0, hR0⟩ : ∃ R : RR, R = sR fa (partR B len b o sh cf fr to pos v) := ⟨_, rfl⟩
  have hc0 : contI R0 fa (partR B len b o sh cf fr to pos v) := by (rw [hR0]; exact cI_s _ _)
  refine j_aload_n jb dX9_readPart_0 0 rfl ?_
  refine j_get jb f_X9_18 dX9_readPart_1 0 rfl rfl ?_
  refine j_iconst jb dX9_readPart_4 ?_
  refine j_callV (wr := [(h0, oX9 s0 x0 n b), (x0, oX1 xc o sh), (xc, aI x.g 4 cf), (hv, aI x.g 400 v)]) jb k_X0_read i_X0_read s_X0_read l_X9_26 (C_X0_read x.l x.g s0 h1 B len fa pos 4 hB (by omega) (by omega) (by decide) (by omega)) 1 2 rfl rfl rfl [1, 2] [0, 3, 4, 5] (by decide) rfl rfl (by decide) (by decide) rfl rfl (Nat.le_of_ble_eq_true rfl) (by decide) dX9_readPart_5 (fun v w hp => ?_)
  obtain ⟨k, f1, p1, rfl, rfl, h5⟩ := hp
  refine j_norm (lv' := [(0, .ref h0), (1, .ref hv), (2, .int (iI fr)), (3, .int (iI to))]) (st' := [.int (iI k)]) (ws' := [(h0, oX9 s0 x0 n b), (s0, oX0 h1 len f1 p1), (h1, aI x.g 2400 B), (x0, oX1 xc o sh), (xc, aI x.g 4 cf), (hv, aI x.g 400 v)]) [0, 1, 2, 3] [0, 4, 5, 1, 2, 3] rfl rfl (by decide) rfl ?_
  have hk := rd_in (M := 16) h5 (num_in B pos (4 : Int).toNat)
  have hc1 : contI R0 f1 (xR B len b o sh cf fr to v k p1) := cI_get hc0 h5
  have hf1 := rd_fa h5
  have hp1 := rd_pos h5 (by decide) hp
  refine j_istore (lv' := [(4, .int (iI k)), (0, .ref h0), (1, .ref hv), (2, .int (iI fr)), (3, .int (iI to))]) jb dX9_readPart_8 (by decide) rfl ?_
  refine j_iload jb dX9_readPart_10 0 rfl ?_
  refine j_bipush jb dX9_readPart_12 (by decide) ?_
  have J29 : ∀ (xx f2 p2 : Int), (contI R0 f2 (xT B len b o sh cf fr to v k xx p2) ∧ (0 ≤ xx ∧ xx < 32) ∧ (0 ≤ p2 ∧ p2 ≤ 8 * len) ∧ (0 ≤ f2 ∧ f2 ≤ 20) ∧ (f2 = 0 → fa = 0)) → JW x 0 0 29 [(0, .ref h0), (1, .ref hv), (2, .int (iI fr)), (3, .int (iI to)), (4, .int (iI k))] [.int (iI xx)] [(h0, oX9 s0 x0 n b), (s0, oX0 h1 len f2 p2), (h1, aI x.g 2400 B), (x0, oX1 xc o sh), (xc, aI x.g 4 cf), (hv, aI x.g 400 v)] := by
    intro xx f2 p2 hj29
    refine j_istore (lv' := [(5, .int (iI xx)), (0, .ref h0), (1, .ref hv), (2, .int (iI fr)), (3, .int (iI to)), (4, .int (iI k))]) jb dX9_readPart_29 (by decide) rfl ?_
    refine j_aload_n jb dX9_readPart_31 1 rfl ?_
    refine j_get jb f_X9_18 dX9_readPart_32 0 rfl rfl ?_
    refine j_iload jb dX9_readPart_35 0 rfl ?_
    refine j_bipush jb dX9_readPart_37 (by decide) ?_
    have J47 : ∀ (wr : Int), ((wr = 1 ∧ 24 < xx) ∨ (wr = 0 ∧ ¬ 24 < xx)) → JW x 0 0 47 [(0, .ref h0), (1, .ref hv), (2, .int (iI fr)), (3, .int (iI to)), (4, .int (iI k)), (5, .int (iI xx))] [.int (iI wr), .ref s0] [(h0, oX9 s0 x0 n b), (s0, oX0 h1 len f2 p2), (h1, aI x.g 2400 B), (x0, oX1 xc o sh), (xc, aI x.g 4 cf), (hv, aI x.g 400 v)] := by
      intro wr hj47
      refine j_bipush jb dX9_readPart_47 (by decide) ?_
      refine j_callV (wr := [(h0, oX9 s0 x0 n b), (h1, aI x.g 2400 B), (x0, oX1 xc o sh), (xc, aI x.g 4 cf), (hv, aI x.g 400 v)]) jb k_X0_faultIf i_X0_faultIf s_X0_faultIf l_X9_32 (C_X0_faultIf x.l x.g s0 h1 len f2 p2 wr 7 (by have := wrIn hj47; omega) (by omega) (by omega)) 1 2 rfl rfl rfl [1] [0, 2, 3, 4, 5] (by decide) rfl rfl (by decide) (by decide) rfl rfl (Nat.le_of_ble_eq_true rfl) (by decide) dX9_readPart_49 (fun v w hp => ?_)
      obtain ⟨f3, rfl, rfl, h49⟩ := hp
      refine j_norm (lv' := [(0, .ref h0), (1, .ref hv), (2, .int (iI fr)), (3, .int (iI to)), (4, .int (iI k)), (5, .int (iI xx))]) (st' := [.int (iI (b2i (f3 ≠ 0)))]) (ws' := [(h0, oX9 s0 x0 n b), (s0, oX0 h1 len f3 p2), (h1, aI x.g 2400 B), (x0, oX1 xc o sh), (xc, aI x.g 4 cf), (hv, aI x.g 400 v)]) [0, 1, 2, 3, 4, 5] [0, 5, 1, 2, 3, 4] rfl rfl (by decide) rfl ?_
      have hc3 := cI_flt hj29.1 h49 (by decide) (wr1 hj47)
      have hf3 := flt_in h49 hj29.2.2.2.1 (by decide)
      refine j_ifb_eq (tgt := 56) jb dX9_readPart_52 (by decide) (fun c_52 => ?_) (fun c_52 => ?_)
      · skip
        have hf30 : f3 = 0 := by omega
        have hx24 : xx ≤ 24 := by (have z := wr0 hj47 (flt_0 h49 (by decide) hf30).1; omega)
        have hf20 := (flt_0 h49 (by decide) hf30).2
        have hfa0 : fa = 0 := hj29.2.2.2.2 hf20
        refine j_iload_n jb dX9_readPart_56 2 rfl ?_
        refine j_istore (lv' := [(6, .int (iI fr)), (0, .ref h0), (1, .ref hv), (2, .int (iI fr)), (3, .int (iI to)), (4, .int (iI k)), (5, .int (iI xx))]) jb dX9_readPart_57 (by decide) rfl ?_
        have L59 : ∀ (fu : Nat) (i fq p : Int) (v1 : Int → Int), (fr ≤ i ∧ i ≤ to ∧ fq = 0 ∧ contI R0 fq (elemR B len b k xx o sh cf (to - i).toNat i p v1) ∧ fitOn v1 b i ∧ 0 ≤ p ∧ p ≤ 8 * len) → (to - i).toNat < fu → JW x 0 0 59 [(0, .ref h0), (1, .ref hv), (2, .int (iI fr)), (3, .int (iI to)), (4, .int (iI k)), (5, .int (iI xx)), (6, .int (iI i))] [] [(h0, oX9 s0 x0 n b), (s0, oX0 h1 len fq p), (h1, aI x.g 2400 B), (x0, oX1 xc o sh), (xc, aI x.g 4 cf), (hv, aI x.g 400 v1)] := by
          intro fu
          induction fu with
          | zero => intro i fq p v1 _ hm; exact absurd hm (by omega)
          | succ fu ih =>
            intro i fq p v1 ⟨hi1, hi2, hi3, hi4, hi5, hi6⟩ hm59
            have ih59 := ih
            clear ih
            refine j_iload jb dX9_readPart_59 6 rfl ?_
            refine j_iload_n jb dX9_readPart_61 3 rfl ?_
            refine j_icmp_ge (tgt := 152) jb dX9_readPart_62 (by decide) (by omega) (by omega) (fun c_62 => ?_) (fun c_62 => ?_)
            · skip
              refine j_norm (lv' := []) (st' := []) (ws' := [(h0, oX9 s0 x0 n b), (s0, oX0 h1 len fq p), (h1, aI x.g 2400 B), (x0, oX1 xc o sh), (xc, aI x.g 4 cf), (hv, aI x.g 400 v1)]) [] [0, 1, 2, 3, 4, 5] rfl rfl (by decide) rfl ?_
              exact j_vret jb jr dX9_readPart_152 ⟨_, _, _, rfl, rfl, (by rw [← hR0]; exact ⟨cI_end (elemR_0 hi4 (by omega)), by omega, hi6, fun _ j h1 h2 => hi5 j h1 (by omega)⟩)⟩
            · skip
              refine j_iload jb dX9_readPart_65 4 rfl ?_
              refine j_bipush jb dX9_readPart_67 (by decide) ?_
              have J93 : ∀ (r f4 p4 : Int), (isRest B len k xx p r f4 p4 ∧ (-16777216 ≤ r ∧ r ≤ 16777216) ∧ (0 ≤ p4 ∧ p4 ≤ 8 * len) ∧ 0 ≤ f4 ∧ f4 ≤ 20) → JW x 0 0 93 [(0, .ref h0), (1, .ref hv), (2, .int (iI fr)), (3, .int (iI to)), (4, .int (iI k)), (5, .int (iI xx)), (6, .int (iI i))] [.int (iI r)] [(h0, oX9 s0 x0 n b), (s0, oX0 h1 len f4 p4), (h1, aI x.g 2400 B), (x0, oX1 xc o sh), (xc, aI x.g 4 cf), (hv, aI x.g 400 v1)] := by
                intro r f4 p4 hj93
                refine j_istore (lv' := [(7, .int (iI r)), (0, .ref h0), (1, .ref hv), (2, .int (iI fr)), (3, .int (iI to)), (4, .int (iI k)), (5, .int (iI xx)), (6, .int (iI i))]) jb dX9_readPart_93 (by decide) rfl ?_
                have hftb := ft_in (sh := sh) ho (show o ≤ i by omega) hcf (fitOn_v hb hi5)
                refine j_aload_n jb dX9_readPart_95 1 rfl ?_
                refine j_get jb f_X9_12 dX9_readPart_96 0 rfl rfl ?_
                refine j_aload_n jb dX9_readPart_99 2 rfl ?_
                refine j_iload jb dX9_readPart_100 7 rfl ?_
                refine j_callV (wr := [(h0, oX9 s0 x0 n b), (s0, oX0 h1 len f4 p4), (h1, aI x.g 2400 B)]) jb k_X1_foretell i_X1_foretell s_X1_foretell l_X9_80 (C_X1_foretell x.l x.g x0 xc hv cf v1 o sh i (by omega) (by omega) (by omega) hcf (fitOn_v hb hi5)) 3 3 rfl rfl rfl [3, 4, 5] [0, 1, 2] (by decide) rfl rfl (by decide) (by decide) rfl rfl (Nat.le_of_ble_eq_true rfl) (by decide) dX9_readPart_102 (fun v w hp => ?_)
                obtain ⟨rfl, rfl⟩ := hp
                refine j_norm (lv' := [(7, .int (iI r)), (0, .ref h0), (1, .ref hv), (2, .int (iI fr)), (3, .int (iI to)), (4, .int (iI k)), (5, .int (iI xx)), (6, .int (iI i))]) (st' := [.int (iI (fsum cf v1 i o.toNat / 2 ^ sh.toNat))]) (ws' := [(h0, oX9 s0 x0 n b), (s0, oX0 h1 len f4 p4), (h1, aI x.g 2400 B), (x0, oX1 xc o sh), (xc, aI x.g 4 cf), (hv, aI x.g 400 v1)]) [0, 1, 2, 3, 4, 5, 6, 7] [0, 1, 2, 3, 4, 5] rfl rfl (by decide) rfl ?_
                refine j_topi (ft cf v1 o sh i) rfl ?_
                refine j_iload jb dX9_readPart_105 0 rfl ?_
                refine j_iadd jb dX9_readPart_107 ?_
                refine j_geni (fun val e_val => ?_)
                refine j_istore (lv' := [(8, .int (iI val)), (7, .int (iI r)), (0, .ref h0), (1, .ref hv), (2, .int (iI fr)), (3, .int (iI to)), (4, .int (iI k)), (5, .int (iI xx)), (6, .int (iI i))]) jb dX9_readPart_108 (by decide) rfl ?_
                
                refine j_aload_n jb dX9_readPart_110 2 rfl ?_
                refine j_get jb f_X9_18 dX9_readPart_111 0 rfl rfl ?_
                refine j_iload jb dX9_readPart_114 0 rfl ?_
                refine j_aload_n jb dX9_readPart_116 2 rfl ?_
                refine j_get jb f_X9_36 dX9_readPart_117 0 rfl rfl ?_
                refine j_callSN (wr := [(h0, oX9 s0 x0 n b), (s0, oX0 h1 len f4 p4), (h1, aI x.g 2400 B), (x0, oX1 xc o sh), (xc, aI x.g 4 cf), (hv, aI x.g 400 v1)]) jb k_X11_fits t_X11_fits n_X9_84 (C_X11_fits x.l x.g val b (by omega) (by omega)) [] [0, 1, 2, 3, 4, 5] (by decide) rfl rfl (by decide) (by decide) rfl rfl (Nat.le_of_ble_eq_true rfl) (by decide) dX9_readPart_120 (fun v w hp => ?_)
                obtain ⟨rfl, rfl⟩ := hp
                refine j_norm (lv' := [(8, .int (iI val)), (7, .int (iI r)), (0, .ref h0), (1, .ref hv), (2, .int (iI fr)), (3, .int (iI to)), (4, .int (iI k)), (5, .int (iI xx)), (6, .int (iI i))]) (st' := [.int (iI (b2i (fit val b))), .ref s0]) (ws' := [(h0, oX9 s0 x0 n b), (s0, oX0 h1 len f4 p4), (h1, aI x.g 2400 B), (x0, oX1 xc o sh), (xc, aI x.g 4 cf), (hv, aI x.g 400 v1)]) [0, 1, 2, 3, 4, 5, 6, 7, 8] [0, 1, 2, 3, 4, 5] rfl rfl (by decide) rfl ?_
                have J131 : ∀ (wr : Int), ((wr = 1 ∧ ¬ fit val b) ∨ (wr = 0 ∧ fit val b)) → JW x 0 0 131 [(0, .ref h0), (1, .ref hv), (2, .int (iI fr)), (3, .int (iI to)), (4, .int (iI k)), (5, .int (iI xx)), (6, .int (iI i)), (7, .int (iI r)), (8, .int (iI val))] [.int (iI wr), .ref s0] [(h0, oX9 s0 x0 n b), (s0, oX0 h1 len f4 p4), (h1, aI x.g 2400 B), (x0, oX1 xc o sh), (xc, aI x.g 4 cf), (hv, aI x.g 400 v1)] := by
                  intro wr hj131
                  refine j_bipush jb dX9_readPart_131 (by decide) ?_
                  refine j_callV (wr := [(h0, oX9 s0 x0 n b), (h1, aI x.g 2400 B), (x0, oX1 xc o sh), (xc, aI x.g 4 cf), (hv, aI x.g 400 v1)]) jb k_X0_faultIf i_X0_faultIf s_X0_faultIf l_X9_32 (C_X0_faultIf x.l x.g s0 h1 len f4 p4 wr 8 (by have := wrIn hj131; omega) (by omega) (by omega)) 1 2 rfl rfl rfl [1] [0, 2, 3, 4, 5] (by decide) rfl rfl (by decide) (by decide) rfl rfl (Nat.le_of_ble_eq_true rfl) (by decide) dX9_readPart_133 (fun v w hp => ?_)
                  obtain ⟨f5, rfl, rfl, h133⟩ := hp
                  refine j_norm (lv' := [(0, .ref h0), (1, .ref hv), (2, .int (iI fr)), (3, .int (iI to)), (4, .int (iI k)), (5, .int (iI xx)), (6, .int (iI i)), (7, .int (iI r)), (8, .int (iI val))]) (st' := [.int (iI (b2i (f5 ≠ 0)))]) (ws' := [(h0, oX9 s0 x0 n b), (s0, oX0 h1 len f5 p4), (h1, aI x.g 2400 B), (x0, oX1 xc o sh), (xc, aI x.g 4 cf), (hv, aI x.g 400 v1)]) [0, 1, 2, 3, 4, 5, 6, 7, 8] [0, 5, 1, 2, 3, 4] rfl rfl (by decide) rfl ?_
                  have hc5 := elemR_step hi4 hi3 (by omega) hj93.1 h133 (by rw [← e_val]; exact wr1 hj131)
                  have hf5 := flt_in h133 hj93.2.2.2 (by decide)
                  refine j_ifb_eq (tgt := 140) jb dX9_readPart_136 (by decide) (fun c_136 => ?_) (fun c_136 => ?_)
                  · skip
                    refine j_aload_n jb dX9_readPart_140 1 rfl ?_
                    refine j_iload jb dX9_readPart_141 6 rfl ?_
                    refine j_iload jb dX9_readPart_143 8 rfl ?_
                    refine j_iast (ws' := [(h0, oX9 s0 x0 n b), (s0, oX0 h1 len f5 p4), (h1, aI x.g 2400 B), (x0, oX1 xc o sh), (xc, aI x.g 4 cf), (hv, aI x.g 400 (zup v1 i val))]) jb dX9_readPart_145 5 rfl (by omega) (by decide) rfl ?_
                    refine j_iinc (lv' := [(6, .int (iI (i + 1))), (0, .ref h0), (1, .ref hv), (2, .int (iI fr)), (3, .int (iI to)), (4, .int (iI k)), (5, .int (iI xx)), (7, .int (iI r)), (8, .int (iI val))]) jb dX9_readPart_146 6 rfl (by decide) rfl ?_
                    refine j_goto (tgt := 59) jb dX9_readPart_149 (by decide) ?_
                    refine j_norm (lv' := [(0, .ref h0), (1, .ref hv), (2, .int (iI fr)), (3, .int (iI to)), (4, .int (iI k)), (5, .int (iI xx)), (6, .int (iI (i + 1)))]) (st' := []) (ws' := [(h0, oX9 s0 x0 n b), (s0, oX0 h1 len f5 p4), (h1, aI x.g 2400 B), (x0, oX1 xc o sh), (xc, aI x.g 4 cf), (hv, aI x.g 400 (zup v1 i val))]) [1, 2, 3, 4, 5, 6, 0] [0, 1, 2, 3, 4, 5] rfl rfl (by decide) rfl ?_
                    exact ih59 (i + 1) f5 p4 (zup v1 i val) (by have z5 : f5 = 0 := (by omega); have z := flt_0 h133 (by decide) z5; have y : fit val b := wr0 hj131 z.1; exact ⟨by omega, by omega, z5, by rw [e_val]; exact hc5, fitOn_up hi5 y, hj93.2.2.1⟩) (by omega)
                  · skip
                    refine j_norm (lv' := []) (st' := []) (ws' := [(h0, oX9 s0 x0 n b), (s0, oX0 h1 len f5 p4), (h1, aI x.g 2400 B), (x0, oX1 xc o sh), (xc, aI x.g 4 cf), (hv, aI x.g 400 v1)]) [] [0, 1, 2, 3, 4, 5] rfl rfl (by decide) rfl ?_
                    exact j_vret jb jr dX9_readPart_139 ⟨_, _, _, rfl, rfl, (by rw [← hR0]; exact ⟨cI_bad hc5 c_136, hf5, hj93.2.2.1, fun q => absurd q c_136⟩)⟩
                refine j_ifb_ne (tgt := 130) jb dX9_readPart_123 (by decide) (fun c_123 => ?_) (fun c_123 => ?_)
                · skip
                  refine j_iconst jb dX9_readPart_130 ?_
                  refine j_norm (lv' := [(0, .ref h0), (1, .ref hv), (2, .int (iI fr)), (3, .int (iI to)), (4, .int (iI k)), (5, .int (iI xx)), (6, .int (iI i)), (7, .int (iI r)), (8, .int (iI val))]) (st' := [.int (iI 0), .ref s0]) (ws' := [(h0, oX9 s0 x0 n b), (s0, oX0 h1 len f4 p4), (h1, aI x.g 2400 B), (x0, oX1 xc o sh), (xc, aI x.g 4 cf), (hv, aI x.g 400 v1)]) [2, 3, 4, 5, 6, 7, 8, 1, 0] [0, 1, 2, 3, 4, 5] rfl rfl (by decide) rfl ?_
                  exact J131 0 (Or.inr ⟨rfl, c_123⟩)
                · skip
                  refine j_iconst jb dX9_readPart_126 ?_
                  refine j_goto (tgt := 131) jb dX9_readPart_127 (by decide) ?_
                  refine j_norm (lv' := [(0, .ref h0), (1, .ref hv), (2, .int (iI fr)), (3, .int (iI to)), (4, .int (iI k)), (5, .int (iI xx)), (6, .int (iI i)), (7, .int (iI r)), (8, .int (iI val))]) (st' := [.int (iI 1), .ref s0]) (ws' := [(h0, oX9 s0 x0 n b), (s0, oX0 h1 len f4 p4), (h1, aI x.g 2400 B), (x0, oX1 xc o sh), (xc, aI x.g 4 cf), (hv, aI x.g 400 v1)]) [2, 3, 4, 5, 6, 7, 8, 1, 0] [0, 1, 2, 3, 4, 5] rfl rfl (by decide) rfl ?_
                  exact J131 1 (Or.inl ⟨rfl, c_123⟩)
              refine j_icmp_ne (tgt := 84) jb dX9_readPart_69 (by decide) (by omega) (by omega) (fun c_69 => ?_) (fun c_69 => ?_)
              · skip
                refine j_aload_n jb dX9_readPart_84 0 rfl ?_
                refine j_get jb f_X9_18 dX9_readPart_85 0 rfl rfl ?_
                refine j_iload jb dX9_readPart_88 4 rfl ?_
                refine j_callV (wr := [(h0, oX9 s0 x0 n b), (x0, oX1 xc o sh), (xc, aI x.g 4 cf), (hv, aI x.g 400 v1)]) jb k_X0_readFolded i_X0_readFolded s_X0_readFolded l_X9_77 (C_X0_readFolded x.l x.g s0 h1 B len fq p k hB (by omega) hi3 (by omega) hi6) 1 2 rfl rfl rfl [1, 2] [0, 3, 4, 5] (by decide) rfl rfl (by decide) (by decide) rfl rfl (Nat.le_of_ble_eq_true rfl) (by decide) dX9_readPart_90 (fun v w hp => ?_)
                obtain ⟨r1, f4, p4, rfl, rfl, h90⟩ := hp
                refine j_norm (lv' := [(0, .ref h0), (1, .ref hv), (2, .int (iI fr)), (3, .int (iI to)), (4, .int (iI k)), (5, .int (iI xx)), (6, .int (iI i))]) (st' := [.int (iI r1)]) (ws' := [(h0, oX9 s0 x0 n b), (s0, oX0 h1 len f4 p4), (h1, aI x.g 2400 B), (x0, oX1 xc o sh), (xc, aI x.g 4 cf), (hv, aI x.g 400 v1)]) [0, 1, 2, 3, 4, 5, 6] [0, 4, 5, 1, 2, 3] rfl rfl (by decide) rfl ?_
                refine j_norm (lv' := [(0, .ref h0), (1, .ref hv), (2, .int (iI fr)), (3, .int (iI to)), (4, .int (iI k)), (5, .int (iI xx)), (6, .int (iI i))]) (st' := [.int (iI r1)]) (ws' := [(h0, oX9 s0 x0 n b), (s0, oX0 h1 len f4 p4), (h1, aI x.g 2400 B), (x0, oX1 xc o sh), (xc, aI x.g 4 cf), (hv, aI x.g 400 v1)]) [0, 1, 2, 3, 4, 5, 6] [0, 1, 2, 3, 4, 5] rfl rfl (by decide) rfl ?_
                exact J93 r1 f4 p4 (by have z := rfold_fa B len k p; exact ⟨rest_k c_69 h90.1, h90.2.1, h90.2.2, by rw [h90.1.1]; omega⟩)
              · skip
                refine j_aload_n jb dX9_readPart_72 0 rfl ?_
                refine j_get jb f_X9_18 dX9_readPart_73 0 rfl rfl ?_
                refine j_iload jb dX9_readPart_76 5 rfl ?_
                refine j_callV (wr := [(h0, oX9 s0 x0 n b), (x0, oX1 xc o sh), (xc, aI x.g 4 cf), (hv, aI x.g 400 v1)]) jb k_X0_readSigned i_X0_readSigned s_X0_readSigned l_X9_39 (C_X0_readSigned x.l x.g s0 h1 B len fq p xx hB (by omega) (by omega) (by omega) hi6) 1 2 rfl rfl rfl [1, 2] [0, 3, 4, 5] (by decide) rfl rfl (by decide) (by decide) rfl rfl (Nat.le_of_ble_eq_true rfl) (by decide) dX9_readPart_78 (fun v w hp => ?_)
                obtain ⟨r1, f4, p4, rfl, rfl, h78⟩ := hp
                refine j_norm (lv' := [(0, .ref h0), (1, .ref hv), (2, .int (iI fr)), (3, .int (iI to)), (4, .int (iI k)), (5, .int (iI xx)), (6, .int (iI i))]) (st' := [.int (iI r1)]) (ws' := [(h0, oX9 s0 x0 n b), (s0, oX0 h1 len f4 p4), (h1, aI x.g 2400 B), (x0, oX1 xc o sh), (xc, aI x.g 4 cf), (hv, aI x.g 400 v1)]) [0, 1, 2, 3, 4, 5, 6] [0, 4, 5, 1, 2, 3] rfl rfl (by decide) rfl ?_
                refine j_goto (tgt := 93) jb dX9_readPart_81 (by decide) ?_
                refine j_norm (lv' := [(0, .ref h0), (1, .ref hv), (2, .int (iI fr)), (3, .int (iI to)), (4, .int (iI k)), (5, .int (iI xx)), (6, .int (iI i))]) (st' := [.int (iI r1)]) (ws' := [(h0, oX9 s0 x0 n b), (s0, oX0 h1 len f4 p4), (h1, aI x.g 2400 B), (x0, oX1 xc o sh), (xc, aI x.g 4 cf), (hv, aI x.g 400 v1)]) [0, 1, 2, 3, 4, 5, 6] [0, 1, 2, 3, 4, 5] rfl rfl (by decide) rfl ?_
                exact J93 r1 f4 p4 ⟨rest_15 c_69 hi3 h78, rd_sgn24 (by omega) h78, rd_pos h78 (by omega) hi6, by have := rd_fa h78; omega⟩
        refine j_norm (lv' := [(0, .ref h0), (1, .ref hv), (2, .int (iI fr)), (3, .int (iI to)), (4, .int (iI k)), (5, .int (iI xx)), (6, .int (iI fr))]) (st' := []) (ws' := [(h0, oX9 s0 x0 n b), (s0, oX0 h1 len f3 p2), (h1, aI x.g 2400 B), (x0, oX1 xc o sh), (xc, aI x.g 4 cf), (hv, aI x.g 400 v)]) [1, 2, 3, 4, 5, 6, 0] [0, 1, 2, 3, 4, 5] rfl rfl (by decide) rfl ?_
        exact L59 _ fr f3 p2 v ⟨Int.le_refl _, hft.2.1, by omega, hc3, hv9 (by omega), hj29.2.2.1⟩ (Nat.lt_succ_self _)
      · skip
        refine j_norm (lv' := []) (st' := []) (ws' := [(h0, oX9 s0 x0 n b), (s0, oX0 h1 len f3 p2), (h1, aI x.g 2400 B), (x0, oX1 xc o sh), (xc, aI x.g 4 cf), (hv, aI x.g 400 v)]) [] [0, 1, 2, 3, 4, 5] rfl rfl (by decide) rfl ?_
        exact j_vret jb jr dX9_readPart_55 ⟨_, _, _, rfl, rfl, (by rw [← hR0]; exact ⟨cI_bad hc3 c_52, hf3, hj29.2.2.1, fun q => absurd q c_52⟩)⟩
    refine j_icmp_le (tgt := 46) jb dX9_readPart_39 (by decide) (by omega) (by omega) (fun c_39 => ?_) (fun c_39 => ?_)
    · skip
      refine j_iconst jb dX9_readPart_46 ?_
      refine j_norm (lv' := [(0, .ref h0), (1, .ref hv), (2, .int (iI fr)), (3, .int (iI to)), (4, .int (iI k)), (5, .int (iI xx))]) (st' := [.int (iI 0), .ref s0]) (ws' := [(h0, oX9 s0 x0 n b), (s0, oX0 h1 len f2 p2), (h1, aI x.g 2400 B), (x0, oX1 xc o sh), (xc, aI x.g 4 cf), (hv, aI x.g 400 v)]) [1, 2, 3, 4, 5, 0] [0, 1, 2, 3, 4, 5] rfl rfl (by decide) rfl ?_
      exact J47 0 (by omega)
    · skip
      refine j_iconst jb dX9_readPart_42 ?_
      refine j_goto (tgt := 47) jb dX9_readPart_43 (by decide) ?_
      refine j_norm (lv' := [(0, .ref h0), (1, .ref hv), (2, .int (iI fr)), (3, .int (iI to)), (4, .int (iI k)), (5, .int (iI xx))]) (st' := [.int (iI 1), .ref s0]) (ws' := [(h0, oX9 s0 x0 n b), (s0, oX0 h1 len f2 p2), (h1, aI x.g 2400 B), (x0, oX1 xc o sh), (xc, aI x.g 4 cf), (hv, aI x.g 400 v)]) [1, 2, 3, 4, 5, 0] [0, 1, 2, 3, 4, 5] rfl rfl (by decide) rfl ?_
      exact J47 1 (by omega)
  refine j_icmp_ne (tgt := 28) jb dX9_readPart_14 (by decide) (by omega) (by omega) (fun c_14 => ?_) (fun c_14 => ?_)
  · skip
    refine j_iconst jb dX9_readPart_28 ?_
    refine j_norm (lv' := [(0, .ref h0), (1, .ref hv), (2, .int (iI fr)), (3, .int (iI to)), (4, .int (iI k))]) (st' := [.int (iI 0)]) (ws' := [(h0, oX9 s0 x0 n b), (s0, oX0 h1 len f1 p1), (h1, aI x.g 2400 B), (x0, oX1 xc o sh), (xc, aI x.g 4 cf), (hv, aI x.g 400 v)]) [1, 2, 3, 4, 0] [0, 1, 2, 3, 4, 5] rfl rfl (by decide) rfl ?_
    exact J29 0 f1 p1 (by have z := hc1; unfold xR at z; rw [if_neg c_14] at z; exact ⟨z, by omega, hp1, by omega, fun q => rd_st h5 q⟩)
  · skip
    refine j_aload_n jb dX9_readPart_17 1 rfl ?_
    refine j_get jb f_X9_18 dX9_readPart_18 0 rfl rfl ?_
    refine j_iconst jb dX9_readPart_21 ?_
    refine j_callV (wr := [(h0, oX9 s0 x0 n b), (x0, oX1 xc o sh), (xc, aI x.g 4 cf), (hv, aI x.g 400 v)]) jb k_X0_read i_X0_read s_X0_read l_X9_26 (C_X0_read x.l x.g s0 h1 B len f1 p1 5 hB (by omega) (by omega) (by decide) (by omega)) 1 2 rfl rfl rfl [1, 2] [0, 3, 4, 5] (by decide) rfl rfl (by decide) (by decide) rfl rfl (Nat.le_of_ble_eq_true rfl) (by decide) dX9_readPart_22 (fun v w hp => ?_)
    obtain ⟨xr, f2, p2, rfl, rfl, h22⟩ := hp
    refine j_norm (lv' := [(4, .int (iI k)), (0, .ref h0), (1, .ref hv), (2, .int (iI fr)), (3, .int (iI to))]) (st' := [.int (iI xr)]) (ws' := [(h0, oX9 s0 x0 n b), (s0, oX0 h1 len f2 p2), (h1, aI x.g 2400 B), (x0, oX1 xc o sh), (xc, aI x.g 4 cf), (hv, aI x.g 400 v)]) [0, 1, 2, 3, 4] [0, 4, 5, 1, 2, 3] rfl rfl (by decide) rfl ?_
    have hxr := rd_in (M := 32) h22 (num_in B p1 (5 : Int).toNat)
    have hf2 := rd_fa h22
    have hp2 := rd_pos h22 (by decide) hp1
    refine j_goto (tgt := 29) jb dX9_readPart_25 (by decide) ?_
    refine j_norm (lv' := [(0, .ref h0), (1, .ref hv), (2, .int (iI fr)), (3, .int (iI to)), (4, .int (iI k))]) (st' := [.int (iI xr)]) (ws' := [(h0, oX9 s0 x0 n b), (s0, oX0 h1 len f2 p2), (h1, aI x.g 2400 B), (x0, oX1 xc o sh), (xc, aI x.g 4 cf), (hv, aI x.g 400 v)]) [1, 2, 3, 4, 0] [0, 1, 2, 3, 4, 5] rfl rfl (by decide) rfl ?_
    exact J29 xr f2 p2 (by have z := hc1; unfold xR at z; rw [if_pos c_14] at z; exact ⟨cI_get z h22, hxr, hp2, by omega, fun q => rd_st h5 (rd_st h22 q)⟩)

