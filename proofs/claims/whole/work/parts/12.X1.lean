set_option maxHeartbeats 4000000 in
set_option maxRecDepth 100000 in
theorem C_X1_foretell (l : Launch) (g : GG) (h0 hc hv : Nat) (cf v : Int → Int) (o sh i : Int) (ho : 0 ≤ o ∧ o ≤ 4) (hs : 0 ≤ sh ∧ sh ≤ 15) (hi : o ≤ i ∧ i ≤ 400) (hcf : cfOk cf) (hv9 : vOk v i) : Ctr l g yX1_foretell cX1_foretell 5 (some .int) 0 0 0 0 [.ref h0, .ref hv, .int (iI i)] [(h0, oX1 hc o sh), (hc, aI g 4 cf), (hv, aI g 400 v)] (fun vv ww => vv = some (.int (iI (fsum cf v i o.toNat / 2 ^ sh.toNat))) ∧ ww = [(h0, oX1 hc o sh), (hc, aI g 4 cf), (hv, aI g 400 v)]) := by
  refine Ctr.of [(0, .ref h0), (1, .ref hv), (2, .int (iI i))] (by decide) (Nat.le_of_ble_eq_true rfl) rfl ?_
  intro x hxl hxg jb jr hin
  subst hxl; subst hxg
  refine j_iconst jb dX1_foretell_0 ?_
  refine j_istore_n (lv' := [(3, .int (iI 0)), (0, .ref h0), (1, .ref hv), (2, .int (iI i))]) jb dX1_foretell_1 rfl (by decide) rfl ?_
  refine j_iconst jb dX1_foretell_2 ?_
  refine j_istore (lv' := [(4, .int (iI 0)), (3, .int (iI 0)), (0, .ref h0), (1, .ref hv), (2, .int (iI i))]) jb dX1_foretell_3 (by decide) rfl ?_
  have L5 : ∀ (fu : Nat) (s j : Int), (0 ≤ j ∧ j ≤ o ∧ s = fsum cf v i j.toNat) → (o - j).toNat < fu → JW x 0 0 5 [(0, .ref h0), (1, .ref hv), (2, .int (iI i)), (3, .int (iI s)), (4, .int (iI j))] [] [(h0, oX1 hc o sh), (hc, aI x.g 4 cf), (hv, aI x.g 400 v)] := by
    intro fu
    induction fu with
    | zero => intro s j _ hm; exact absurd hm (by omega)
    | succ fu ih =>
      intro s j ⟨hi1, hi2, hi3⟩ hm5
      have ih5 := ih
      clear ih
      refine j_iload jb dX1_foretell_5 4 rfl ?_
      refine j_aload_n jb dX1_foretell_7 0 rfl ?_
      refine j_get jb f_X1_15 dX1_foretell_8 0 rfl rfl ?_
      refine j_icmp_ge (tgt := 45) jb dX1_foretell_11 (by decide) (by omega) (by omega) (fun c_11 => ?_) (fun c_11 => ?_)
      · skip
        have hj : j = o := by omega
        have hb9 := fsum_in (n := j.toNat) (by omega) (show (j.toNat : Int) ≤ i by omega) hcf hv9
        refine j_iload_n jb dX1_foretell_45 3 rfl ?_
        refine j_aload_n jb dX1_foretell_46 0 rfl ?_
        refine j_get jb f_X1_19 dX1_foretell_47 0 rfl rfl ?_
        refine j_ishr jb dX1_foretell_50 (by rw [hi3]; omega) (by omega) ?_
        refine j_topi (fsum cf v i o.toNat / 2 ^ sh.toNat) (by rw [hi3, hj]) ?_
        refine j_norm (lv' := []) (st' := [.int (iI (fsum cf v i o.toNat / 2 ^ sh.toNat))]) (ws' := [(h0, oX1 hc o sh), (hc, aI x.g 4 cf), (hv, aI x.g 400 v)]) [] [0, 1, 2] rfl rfl (by decide) rfl ?_
        exact j_iret jb jr dX1_foretell_51 ⟨rfl, rfl⟩
      · skip
        refine j_iload jb dX1_foretell_14 4 rfl ?_
        refine j_iload_n jb dX1_foretell_16 2 rfl ?_
        refine j_icmp_ge (tgt := 45) jb dX1_foretell_17 (by decide) (by omega) (by omega) (fun c_17 => ?_) (fun c_17 => ?_)
        · skip
          have hj : j = o := by omega
          have hb9 := fsum_in (n := j.toNat) (by omega) (show (j.toNat : Int) ≤ i by omega) hcf hv9
          refine j_iload_n jb dX1_foretell_45 3 rfl ?_
          refine j_aload_n jb dX1_foretell_46 0 rfl ?_
          refine j_get jb f_X1_19 dX1_foretell_47 0 rfl rfl ?_
          refine j_ishr jb dX1_foretell_50 (by rw [hi3]; omega) (by omega) ?_
          refine j_topi (fsum cf v i o.toNat / 2 ^ sh.toNat) (by rw [hi3, hj]) ?_
          refine j_norm (lv' := []) (st' := [.int (iI (fsum cf v i o.toNat / 2 ^ sh.toNat))]) (ws' := [(h0, oX1 hc o sh), (hc, aI x.g 4 cf), (hv, aI x.g 400 v)]) [] [0, 1, 2] rfl rfl (by decide) rfl ?_
          exact j_iret jb jr dX1_foretell_51 ⟨rfl, rfl⟩
        · skip
          refine j_iload_n jb dX1_foretell_20 3 rfl ?_
          refine j_aload_n jb dX1_foretell_21 0 rfl ?_
          refine j_get jb f_X1_9 dX1_foretell_22 0 rfl rfl ?_
          refine j_iload jb dX1_foretell_25 4 rfl ?_
          refine j_iald jb dX1_foretell_27 1 rfl (by omega) (by decide) ?_
          refine j_aload_n jb dX1_foretell_28 1 rfl ?_
          refine j_iload_n jb dX1_foretell_29 2 rfl ?_
          refine j_iconst jb dX1_foretell_30 ?_
          refine j_isub jb dX1_foretell_31 ?_
          refine j_iload jb dX1_foretell_32 4 rfl ?_
          refine j_isub jb dX1_foretell_34 ?_
          refine j_iald jb dX1_foretell_35 2 rfl (by omega) (by decide) ?_
          refine j_imul jb dX1_foretell_36 ?_
          refine j_iadd jb dX1_foretell_37 ?_
          refine j_istore_n (lv' := [(3, .int (iI (s + ((cf j) * (v ((i - 1) - j)))))), (0, .ref h0), (1, .ref hv), (2, .int (iI i)), (4, .int (iI j))]) jb dX1_foretell_38 rfl (by decide) rfl ?_
          refine j_iinc (lv' := [(4, .int (iI (j + 1))), (3, .int (iI (s + ((cf j) * (v ((i - 1) - j)))))), (0, .ref h0), (1, .ref hv), (2, .int (iI i))]) jb dX1_foretell_39 4 rfl (by decide) rfl ?_
          refine j_goto (tgt := 5) jb dX1_foretell_42 (by decide) ?_
          refine j_norm (lv' := [(0, .ref h0), (1, .ref hv), (2, .int (iI i)), (3, .int (iI (s + ((cf j) * (v ((i - 1) - j)))))), (4, .int (iI (j + 1)))]) (st' := []) (ws' := [(h0, oX1 hc o sh), (hc, aI x.g 4 cf), (hv, aI x.g 400 v)]) [2, 3, 4, 1, 0] [0, 1, 2] rfl rfl (by decide) rfl ?_
          exact ih5 (s + ((cf j) * (v ((i - 1) - j)))) (j + 1) ⟨by omega, by omega, fsum_next hi1 hi3⟩ (by omega)
  refine j_norm (lv' := [(0, .ref h0), (1, .ref hv), (2, .int (iI i)), (3, .int (iI 0)), (4, .int (iI 0))]) (st' := []) (ws' := [(h0, oX1 hc o sh), (hc, aI x.g 4 cf), (hv, aI x.g 400 v)]) [2, 3, 4, 1, 0] [0, 1, 2] rfl rfl (by decide) rfl ?_
  exact L5 _ 0 0 ⟨by decide, ho.1, rfl⟩ (Nat.lt_succ_self _)

set_option maxHeartbeats 4000000 in
set_option maxRecDepth 100000 in
theorem C_X1_becomeFixed (l : Launch) (g : GG) (h0 hc : Nat) (cf : Int → Int) (o sh o2 : Int) (ho : 0 ≤ o2 ∧ o2 ≤ 4) : Ctr l g yX1_becomeFixed cX1_becomeFixed 3 none 0 0 0 0 [.ref h0, .int (iI o2)] [(h0, oX1 hc o sh), (hc, aI g 4 cf)] (fun vv ww => ∃ (c2 : Int → Int), vv = none ∧ ww = [(h0, oX1 hc o2 0), (hc, aI g 4 c2)] ∧ ∀ j, 0 ≤ j → j < 4 → c2 j = zFixed (o2 * 4 + j).toNat) := by
  refine Ctr.of [(0, .ref h0), (1, .int (iI o2))] (by decide) (Nat.le_of_ble_eq_true rfl) rfl ?_
  intro x hxl hxg jb jr hin
  subst hxl; subst hxg
  refine j_aload_n jb dX1_becomeFixed_0 0 rfl ?_
  refine j_iload_n jb dX1_becomeFixed_1 1 rfl ?_
  refine j_put (ws' := [(h0, oX1 hc o2 sh), (hc, aI x.g 4 cf)]) jb f_X1_15 w_X1_1 rfl dX1_becomeFixed_2 0 rfl rfl rfl (Nat.le_of_ble_eq_true rfl) rfl ?_
  refine j_aload_n jb dX1_becomeFixed_5 0 rfl ?_
  refine j_iconst jb dX1_becomeFixed_6 ?_
  refine j_put (ws' := [(h0, oX1 hc o2 0), (hc, aI x.g 4 cf)]) jb f_X1_19 w_X1_2 rfl dX1_becomeFixed_7 0 rfl rfl rfl (Nat.le_of_ble_eq_true rfl) rfl ?_
  refine j_iconst jb dX1_becomeFixed_10 ?_
  refine j_istore_n (lv' := [(2, .int (iI 0)), (0, .ref h0), (1, .int (iI o2))]) jb dX1_becomeFixed_11 rfl (by decide) rfl ?_
  have L12 : ∀ (fu : Nat) (j : Int) (c1 : Int → Int), (0 ≤ j ∧ j ≤ 4 ∧ ∀ t, 0 ≤ t → t < j → c1 t = zFixed (o2 * 4 + t).toNat) → (4 - j).toNat < fu → JW x 0 0 12 [(0, .ref h0), (1, .int (iI o2)), (2, .int (iI j))] [] [(h0, oX1 hc o2 0), (hc, aI x.g 4 c1)] := by
    intro fu
    induction fu with
    | zero => intro j c1 _ hm; exact absurd hm (by omega)
    | succ fu ih =>
      intro j c1 ⟨hi1, hi2, hi3⟩ hm12
      have ih12 := ih
      clear ih
      refine j_iload_n jb dX1_becomeFixed_12 2 rfl ?_
      refine j_iconst jb dX1_becomeFixed_13 ?_
      refine j_icmp_ge (tgt := 38) jb dX1_becomeFixed_14 (by decide) (by omega) (by omega) (fun c_14 => ?_) (fun c_14 => ?_)
      · skip
        refine j_norm (lv' := []) (st' := []) (ws' := [(h0, oX1 hc o2 0), (hc, aI x.g 4 c1)]) [] [0, 1] rfl rfl (by decide) rfl ?_
        exact j_vret jb jr dX1_becomeFixed_38 ⟨_, rfl, rfl, (fun t h1 h2 => hi3 t h1 (by omega))⟩
      · skip
        refine j_aload_n jb dX1_becomeFixed_17 0 rfl ?_
        refine j_get jb f_X1_9 dX1_becomeFixed_18 0 rfl rfl ?_
        refine j_iload_n jb dX1_becomeFixed_21 2 rfl ?_
        refine j_getsN jb jb.2.2.2.2.2.2.2.1.2.2.1 n_X1_22 dX1_becomeFixed_22 ?_
        refine j_iload_n jb dX1_becomeFixed_25 1 rfl ?_
        refine j_iconst jb dX1_becomeFixed_26 ?_
        refine j_imul jb dX1_becomeFixed_27 ?_
        refine j_iload_n jb dX1_becomeFixed_28 2 rfl ?_
        refine j_iadd jb dX1_becomeFixed_29 ?_
        refine j_tald jb jb.2.2.2.2.2.2.2.1.2.2.2 (by omega) (by decide) dX1_becomeFixed_30 ?_
        refine j_iast (ws' := [(h0, oX1 hc o2 0), (hc, aI x.g 4 (zup c1 j (zFixed ((o2 * 4) + j).toNat)))]) jb dX1_becomeFixed_31 1 rfl (by omega) (by decide) rfl ?_
        refine j_iinc (lv' := [(2, .int (iI (j + 1))), (0, .ref h0), (1, .int (iI o2))]) jb dX1_becomeFixed_32 2 rfl (by decide) rfl ?_
        refine j_goto (tgt := 12) jb dX1_becomeFixed_35 (by decide) ?_
        refine j_norm (lv' := [(0, .ref h0), (1, .int (iI o2)), (2, .int (iI (j + 1)))]) (st' := []) (ws' := [(h0, oX1 hc o2 0), (hc, aI x.g 4 (zup c1 j (zFixed ((o2 * 4) + j).toNat)))]) [1, 2, 0] [0, 1] rfl rfl (by decide) rfl ?_
        exact ih12 (j + 1) (zup c1 j (zFixed ((o2 * 4) + j).toNat)) ⟨by omega, by omega, fun t h1 h2 => by (by_cases e : t = j); { rw [e, zup_s] }; { rw [zup_n e]; exact hi3 t h1 (by omega) }⟩ (by omega)
  refine j_norm (lv' := [(0, .ref h0), (1, .int (iI o2)), (2, .int (iI 0))]) (st' := []) (ws' := [(h0, oX1 hc o2 0), (hc, aI x.g 4 cf)]) [1, 2, 0] [0, 1] rfl rfl (by decide) rfl ?_
  exact L12 _ 0 cf ⟨by decide, by decide, fun t h1 h2 => by omega⟩ (Nat.lt_succ_self _)

set_option maxHeartbeats 4000000 in
set_option maxRecDepth 100000 in
theorem C_X1_becomeTold (l : Launch) (g : GG) (h0 hc : Nat) (cf : Int → Int) (o sh o2 s2 al : Int) (ho : 0 ≤ o2 ∧ o2 ≤ 4) (hal : inL al) : Ctr l g yX1_becomeTold cX1_becomeTold 6 none 1 30 0 0 [.ref h0, .int (iI o2), .int (iI s2), .long (lI al)] [(h0, oX1 hc o sh), (hc, aI g 4 cf)] (fun vv ww => ∃ (c2 : Int → Int), vv = none ∧ ww = [(h0, oX1 hc o2 s2), (hc, aI g 4 c2)] ∧ (∀ j, 0 ≤ j → j < o2 → c2 j = sgn (al / 2 ^ (j * 10).toNat) 10) ∧ (∀ j, o2 ≤ j → c2 j = cf j)) := by
  refine Ctr.of [(0, .ref h0), (1, .int (iI o2)), (2, .int (iI s2)), (3, .long (lI al))] (by decide) (Nat.le_of_ble_eq_true rfl) rfl ?_
  intro x hxl hxg jb jr hin
  subst hxl; subst hxg
  refine j_aload_n jb dX1_becomeTold_0 0 rfl ?_
  refine j_iload_n jb dX1_becomeTold_1 1 rfl ?_
  refine j_put (ws' := [(h0, oX1 hc o2 sh), (hc, aI x.g 4 cf)]) jb f_X1_15 w_X1_1 rfl dX1_becomeTold_2 0 rfl rfl rfl (Nat.le_of_ble_eq_true rfl) rfl ?_
  refine j_aload_n jb dX1_becomeTold_5 0 rfl ?_
  refine j_iload_n jb dX1_becomeTold_6 2 rfl ?_
  refine j_put (ws' := [(h0, oX1 hc o2 s2), (hc, aI x.g 4 cf)]) jb f_X1_19 w_X1_2 rfl dX1_becomeTold_7 0 rfl rfl rfl (Nat.le_of_ble_eq_true rfl) rfl ?_
  refine j_iconst jb dX1_becomeTold_10 ?_
  refine j_istore (lv' := [(5, .int (iI 0)), (0, .ref h0), (1, .int (iI o2)), (2, .int (iI s2)), (3, .long (lI al))]) jb dX1_becomeTold_11 (by decide) rfl ?_
  have L13 : ∀ (fu : Nat) (j : Int) (c1 : Int → Int), (0 ≤ j ∧ j ≤ o2 ∧ (∀ t, 0 ≤ t → t < j → c1 t = sgn (al / 2 ^ (t * 10).toNat) 10) ∧ (∀ t, o2 ≤ t → c1 t = cf t)) → (o2 - j).toNat < fu → JW x 0 0 13 [(0, .ref h0), (1, .int (iI o2)), (2, .int (iI s2)), (3, .long (lI al)), (5, .int (iI j))] [] [(h0, oX1 hc o2 s2), (hc, aI x.g 4 c1)] := by
    intro fu
    induction fu with
    | zero => intro j c1 _ hm; exact absurd hm (by omega)
    | succ fu ih =>
      intro j c1 ⟨hi1, hi2, hi3, hi4⟩ hm13
      have ih13 := ih
      clear ih
      refine j_iload jb dX1_becomeTold_13 4 rfl ?_
      refine j_iload_n jb dX1_becomeTold_15 1 rfl ?_
      refine j_icmp_ge (tgt := 45) jb dX1_becomeTold_16 (by decide) (by omega) (by omega) (fun c_16 => ?_) (fun c_16 => ?_)
      · skip
        refine j_norm (lv' := []) (st' := []) (ws' := [(h0, oX1 hc o2 s2), (hc, aI x.g 4 c1)]) [] [0, 1] rfl rfl (by decide) rfl ?_
        exact j_vret jb jr dX1_becomeTold_45 ⟨_, rfl, rfl, ⟨fun t h1 h2 => hi3 t h1 (by omega), hi4⟩⟩
      · skip
        refine j_aload_n jb dX1_becomeTold_19 0 rfl ?_
        refine j_get jb f_X1_9 dX1_becomeTold_20 0 rfl rfl ?_
        refine j_iload jb dX1_becomeTold_23 4 rfl ?_
        refine j_lload_n jb dX1_becomeTold_25 3 rfl ?_
        refine j_iload jb dX1_becomeTold_26 4 rfl ?_
        refine j_bipush jb dX1_becomeTold_28 (by decide) ?_
        refine j_imul jb dX1_becomeTold_30 ?_
        refine j_lshr jb dX1_becomeTold_31 (by omega) (by omega) ?_
        refine j_l2i jb dX1_becomeTold_32 ?_
        refine j_bipush jb dX1_becomeTold_33 (by decide) ?_
        refine j_callSN (wr := [(h0, oX1 hc o2 s2), (hc, aI x.g 4 c1)]) jb k_X11_signed t_X11_signed n_X1_25 (C_X11_signed x.l x.g (al / 2 ^ (j * 10).toNat) 10 (by omega)) [] [0, 1] (by decide) rfl rfl (by decide) (by decide) rfl rfl (Nat.le_of_ble_eq_true rfl) (by decide) dX1_becomeTold_35 (fun v w hp => ?_)
        obtain ⟨rfl, rfl⟩ := hp
        refine j_norm (lv' := [(0, .ref h0), (1, .int (iI o2)), (2, .int (iI s2)), (3, .long (lI al)), (5, .int (iI j))]) (st' := [.int (iI (sgn (al / 2 ^ (j * 10).toNat) 10)), .int (iI j), .ref hc]) (ws' := [(h0, oX1 hc o2 s2), (hc, aI x.g 4 c1)]) [0, 1, 2, 3, 4] [0, 1] rfl rfl (by decide) rfl ?_
        refine j_iast (ws' := [(h0, oX1 hc o2 s2), (hc, aI x.g 4 (zup c1 j (sgn (al / 2 ^ (j * 10).toNat) 10)))]) jb dX1_becomeTold_38 1 rfl (by omega) (by decide) rfl ?_
        refine j_iinc (lv' := [(5, .int (iI (j + 1))), (0, .ref h0), (1, .int (iI o2)), (2, .int (iI s2)), (3, .long (lI al))]) jb dX1_becomeTold_39 4 rfl (by decide) rfl ?_
        refine j_goto (tgt := 13) jb dX1_becomeTold_42 (by decide) ?_
        refine j_norm (lv' := [(0, .ref h0), (1, .int (iI o2)), (2, .int (iI s2)), (3, .long (lI al)), (5, .int (iI (j + 1)))]) (st' := []) (ws' := [(h0, oX1 hc o2 s2), (hc, aI x.g 4 (zup c1 j (sgn (al / 2 ^ (j * 10).toNat) 10)))]) [1, 2, 3, 4, 0] [0, 1] rfl rfl (by decide) rfl ?_
        exact ih13 (j + 1) (zup c1 j (sgn (al / 2 ^ (j * 10).toNat) 10)) ⟨by omega, by omega, fun t h1 h2 => by (by_cases e : t = j); { rw [e, zup_s] }; { rw [zup_n e]; exact hi3 t h1 (by omega) }, fun t h1 => by rw [zup_n (by omega)]; exact hi4 t h1⟩ (by omega)
  refine j_norm (lv' := [(0, .ref h0), (1, .int (iI o2)), (2, .int (iI s2)), (3, .long (lI al)), (5, .int (iI 0))]) (st' := []) (ws' := [(h0, oX1 hc o2 s2), (hc, aI x.g 4 cf)]) [1, 2, 3, 4, 0] [0, 1] rfl rfl (by decide) rfl ?_
  exact L13 _ 0 cf ⟨by decide, ho.1, fun t h1 h2 => by omega, fun _ _ => rfl⟩ (Nat.lt_succ_self _)

