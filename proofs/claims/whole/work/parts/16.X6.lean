set_option maxHeartbeats 4000000 in
set_option maxRecDepth 100000 in
theorem C_J7_fill_53178 (l : Launch) (g : GG) (h : Nat) (f : Int → Int) (v : Int)  : Ctr l g yJ7_fill_53178 cJ7_fill_53178 4 none 0 0 0 0 [.ref h, .int (iI v)] [(h, aI g 16 f)] (fun vv ww => ∃ (f2 : Int → Int), vv = none ∧ ww = [(h, aI g 16 f2)] ∧ ∀ j, 0 ≤ j → j < 16 → f2 j = v) := by
  refine Ctr.of [(0, .ref h), (1, .int (iI v))] (by decide) (Nat.le_of_ble_eq_true rfl) rfl ?_
  intro x hxl hxg jb jr hin
  subst hxl; subst hxg
  refine j_iconst jb dJ7_fill_53178_0 ?_
  refine j_istore_n (lv' := [(2, .int (iI 0)), (0, .ref h), (1, .int (iI v))]) jb dJ7_fill_53178_1 rfl (by decide) rfl ?_
  refine j_aload_n jb dJ7_fill_53178_2 1 rfl ?_
  refine j_alen (t0 := 0) jb dJ7_fill_53178_3 0 rfl rfl ?_
  refine j_istore_n (lv' := [(3, .int (iI 16)), (2, .int (iI 0)), (0, .ref h), (1, .int (iI v))]) jb dJ7_fill_53178_4 rfl (by decide) rfl ?_
  have L5 : ∀ (fu : Nat) (i : Int) (f1 : Int → Int), (0 ≤ i ∧ i ≤ 16 ∧ ∀ j, 0 ≤ j → j < i → f1 j = v) → (16 - i).toNat < fu → JW x 0 0 5 [(0, .ref h), (1, .int (iI v)), (2, .int (iI i)), (3, .int (iI 16))] [] [(h, aI x.g 16 f1)] := by
    intro fu
    induction fu with
    | zero => intro i f1 _ hm; exact absurd hm (by omega)
    | succ fu ih =>
      intro i f1 ⟨hi1, hi2, hi3⟩ hm5
      have ih5 := ih
      clear ih
      refine j_iload_n jb dJ7_fill_53178_5 2 rfl ?_
      refine j_iload_n jb dJ7_fill_53178_6 3 rfl ?_
      refine j_icmp_ge (tgt := 20) jb dJ7_fill_53178_7 (by decide) (by omega) (by omega) (fun c_7 => ?_) (fun c_7 => ?_)
      · skip
        refine j_norm (lv' := []) (st' := []) (ws' := [(h, aI x.g 16 f1)]) [] [0] rfl rfl (by decide) rfl ?_
        exact j_vret jb jr dJ7_fill_53178_20 ⟨_, rfl, rfl, (fun j h1 h2 => hi3 j h1 (by omega))⟩
      · skip
        refine j_aload_n jb dJ7_fill_53178_10 0 rfl ?_
        refine j_iload_n jb dJ7_fill_53178_11 2 rfl ?_
        refine j_iload_n jb dJ7_fill_53178_12 1 rfl ?_
        refine j_iast (ws' := [(h, aI x.g 16 (zup f1 i v))]) jb dJ7_fill_53178_13 0 rfl (by omega) (by decide) rfl ?_
        refine j_iinc (lv' := [(2, .int (iI (i + 1))), (0, .ref h), (1, .int (iI v)), (3, .int (iI 16))]) jb dJ7_fill_53178_14 2 rfl (by decide) rfl ?_
        refine j_goto (tgt := 5) jb dJ7_fill_53178_17 (by decide) ?_
        refine j_norm (lv' := [(0, .ref h), (1, .int (iI v)), (2, .int (iI (i + 1))), (3, .int (iI 16))]) (st' := []) (ws' := [(h, aI x.g 16 (zup f1 i v))]) [1, 2, 0, 3] [0] rfl rfl (by decide) rfl ?_
        exact ih5 (i + 1) (zup f1 i v) ⟨by omega, by omega, fun j h1 h2 => by (by_cases e : j = i); { rw [e, zup_s] }; { rw [zup_n e]; exact hi3 j h1 (by omega) }⟩ (by omega)
  refine j_norm (lv' := [(0, .ref h), (1, .int (iI v)), (2, .int (iI 0)), (3, .int (iI 16))]) (st' := []) (ws' := [(h, aI x.g 16 f)]) [2, 3, 1, 0] [0] rfl rfl (by decide) rfl ?_
  exact L5 _ 0 f ⟨by decide, by decide, fun j h1 h2 => by omega⟩ (Nat.lt_succ_self _)

set_option maxHeartbeats 4000000 in
set_option maxRecDepth 100000 in
theorem C_J7_fill_d0a16 (l : Launch) (g : GG) (h : Nat) (f : Int → Int) (v : Int)  : Ctr l g yJ7_fill_d0a16 cJ7_fill_d0a16 5 none 0 0 0 0 [.ref h, .long (lI v)] [(h, aL g 240 f)] (fun vv ww => ∃ (f2 : Int → Int), vv = none ∧ ww = [(h, aL g 240 f2)] ∧ ∀ j, 0 ≤ j → j < 240 → f2 j = v) := by
  refine Ctr.of [(0, .ref h), (1, .long (lI v))] (by decide) (Nat.le_of_ble_eq_true rfl) rfl ?_
  intro x hxl hxg jb jr hin
  subst hxl; subst hxg
  refine j_iconst jb dJ7_fill_d0a16_0 ?_
  refine j_istore_n (lv' := [(3, .int (iI 0)), (0, .ref h), (1, .long (lI v))]) jb dJ7_fill_d0a16_1 rfl (by decide) rfl ?_
  refine j_aload_n jb dJ7_fill_d0a16_2 1 rfl ?_
  refine j_alen (t0 := 1) jb dJ7_fill_d0a16_3 0 rfl rfl ?_
  refine j_istore (lv' := [(4, .int (iI 240)), (3, .int (iI 0)), (0, .ref h), (1, .long (lI v))]) jb dJ7_fill_d0a16_4 (by decide) rfl ?_
  have L6 : ∀ (fu : Nat) (i : Int) (f1 : Int → Int), (0 ≤ i ∧ i ≤ 240 ∧ ∀ j, 0 ≤ j → j < i → f1 j = v) → (240 - i).toNat < fu → JW x 0 0 6 [(0, .ref h), (1, .long (lI v)), (3, .int (iI i)), (4, .int (iI 240))] [] [(h, aL x.g 240 f1)] := by
    intro fu
    induction fu with
    | zero => intro i f1 _ hm; exact absurd hm (by omega)
    | succ fu ih =>
      intro i f1 ⟨hi1, hi2, hi3⟩ hm6
      have ih6 := ih
      clear ih
      refine j_iload_n jb dJ7_fill_d0a16_6 2 rfl ?_
      refine j_iload jb dJ7_fill_d0a16_7 3 rfl ?_
      refine j_icmp_ge (tgt := 22) jb dJ7_fill_d0a16_9 (by decide) (by omega) (by omega) (fun c_9 => ?_) (fun c_9 => ?_)
      · skip
        refine j_norm (lv' := []) (st' := []) (ws' := [(h, aL x.g 240 f1)]) [] [0] rfl rfl (by decide) rfl ?_
        exact j_vret jb jr dJ7_fill_d0a16_22 ⟨_, rfl, rfl, (fun j h1 h2 => hi3 j h1 (by omega))⟩
      · skip
        refine j_aload_n jb dJ7_fill_d0a16_12 0 rfl ?_
        refine j_iload_n jb dJ7_fill_d0a16_13 2 rfl ?_
        refine j_lload_n jb dJ7_fill_d0a16_14 1 rfl ?_
        refine j_last (ws' := [(h, aL x.g 240 (zup f1 i v))]) jb dJ7_fill_d0a16_15 0 rfl (by omega) (by decide) rfl ?_
        refine j_iinc (lv' := [(3, .int (iI (i + 1))), (0, .ref h), (1, .long (lI v)), (4, .int (iI 240))]) jb dJ7_fill_d0a16_16 2 rfl (by decide) rfl ?_
        refine j_goto (tgt := 6) jb dJ7_fill_d0a16_19 (by decide) ?_
        refine j_norm (lv' := [(0, .ref h), (1, .long (lI v)), (3, .int (iI (i + 1))), (4, .int (iI 240))]) (st' := []) (ws' := [(h, aL x.g 240 (zup f1 i v))]) [1, 2, 0, 3] [0] rfl rfl (by decide) rfl ?_
        exact ih6 (i + 1) (zup f1 i v) ⟨by omega, by omega, fun j h1 h2 => by (by_cases e : j = i); { rw [e, zup_s] }; { rw [zup_n e]; exact hi3 j h1 (by omega) }⟩ (by omega)
  refine j_norm (lv' := [(0, .ref h), (1, .long (lI v)), (3, .int (iI 0)), (4, .int (iI 240))]) (st' := []) (ws' := [(h, aL x.g 240 f)]) [2, 3, 1, 0] [0] rfl rfl (by decide) rfl ?_
  exact L6 _ 0 f ⟨by decide, by decide, fun j h1 h2 => by omega⟩ (Nat.lt_succ_self _)

set_option maxHeartbeats 4000000 in
set_option maxRecDepth 100000 in
theorem C_X6_tally (l : Launch) (g : GG) (h0 hO hU hK hX : Nat) (n o fin : Int) (On Un : Int → Int) (pt u : Int) (hp : 0 ≤ pt ∧ pt < 16) (hu : 0 ≤ u ∧ u < 16777216) : Ctr l g yX6_tally cX6_tally 5 none 0 0 0 0 [.ref h0, .int (iI pt), .int (iI u)] [(h0, oX6 hO hU hK hX n o fin), (hO, aL g 240 On), (hU, aI g 16 Un)] (fun vv ww => ∃ (On2 : Int → Int), vv = none ∧ ww = [(h0, oX6 hO hU hK hX n o fin), (hO, aL g 240 On2), (hU, aI g 16 (zup Un pt (zOr (Un pt) u)))] ∧ (∀ t, 0 ≤ t → t < 15 → On2 (pt * 15 + t) = On (pt * 15 + t) + u / 2 ^ t.toNat) ∧ (∀ q, (q < pt * 15 ∨ pt * 15 + 15 ≤ q) → On2 q = On q)) := by
  refine Ctr.of [(0, .ref h0), (1, .int (iI pt)), (2, .int (iI u))] (by decide) (Nat.le_of_ble_eq_true rfl) rfl ?_
  intro x hxl hxg jb jr hin
  subst hxl; subst hxg
  refine j_aload_n jb dX6_tally_0 0 rfl ?_
  refine j_get jb f_X6_15 dX6_tally_1 0 rfl rfl ?_
  refine j_iload_n jb dX6_tally_4 1 rfl ?_
  refine j_dup2 jb dX6_tally_5 rfl rfl ?_
  refine j_iald jb dX6_tally_6 2 rfl (by omega) (by decide) ?_
  refine j_iload_n jb dX6_tally_7 2 rfl ?_
  refine j_ior jb dX6_tally_8 ?_
  refine j_iast (ws' := [(h0, oX6 hO hU hK hX n o fin), (hO, aL x.g 240 On), (hU, aI x.g 16 (zup Un pt (zOr (Un pt) u)))]) jb dX6_tally_9 2 rfl (by omega) (by decide) rfl ?_
  refine j_iload_n jb dX6_tally_10 2 rfl ?_
  refine j_istore_n (lv' := [(3, .int (iI u)), (0, .ref h0), (1, .int (iI pt)), (2, .int (iI u))]) jb dX6_tally_11 rfl (by decide) rfl ?_
  refine j_iconst jb dX6_tally_12 ?_
  refine j_istore (lv' := [(4, .int (iI 0)), (3, .int (iI u)), (0, .ref h0), (1, .int (iI pt)), (2, .int (iI u))]) jb dX6_tally_13 (by decide) rfl ?_
  have L15 : ∀ (fu : Nat) (left j : Int) (O1 : Int → Int), (0 ≤ j ∧ j ≤ 15 ∧ left = u / 2 ^ j.toNat ∧ (0 ≤ left ∧ left ≤ u) ∧ (∀ t, 0 ≤ t → t < j → O1 (pt * 15 + t) = On (pt * 15 + t) + u / 2 ^ t.toNat) ∧ (∀ q, (q < pt * 15 ∨ pt * 15 + j ≤ q) → O1 q = On q)) → (15 - j).toNat < fu → JW x 0 0 15 [(0, .ref h0), (1, .int (iI pt)), (2, .int (iI u)), (3, .int (iI left)), (4, .int (iI j))] [] [(h0, oX6 hO hU hK hX n o fin), (hO, aL x.g 240 O1), (hU, aI x.g 16 (zup Un pt (zOr (Un pt) u)))] := by
    intro fu
    induction fu with
    | zero => intro left j O1 _ hm; exact absurd hm (by omega)
    | succ fu ih =>
      intro left j O1 ⟨hi1, hi2, hi3, hi4, hi5, hi6⟩ hm15
      have ih15 := ih
      clear ih
      refine j_iload jb dX6_tally_15 4 rfl ?_
      refine j_bipush jb dX6_tally_17 (by decide) ?_
      refine j_icmp_ge (tgt := 53) jb dX6_tally_19 (by decide) (by omega) (by omega) (fun c_19 => ?_) (fun c_19 => ?_)
      · skip
        refine j_norm (lv' := []) (st' := []) (ws' := [(h0, oX6 hO hU hK hX n o fin), (hO, aL x.g 240 O1), (hU, aI x.g 16 (zup Un pt (zOr (Un pt) u)))]) [] [0, 1, 2] rfl rfl (by decide) rfl ?_
        exact j_vret jb jr dX6_tally_53 ⟨_, rfl, rfl, ⟨fun t h1 h2 => by (by_cases e : t < j); { exact hi5 t h1 e }; { rw [hi6 _ (by omega), div_zero hu.1 (show 0 = u / 2 ^ j.toNat by omega) hi1 (by omega), Int.add_zero] }, fun q h => hi6 q (by omega)⟩⟩
      · skip
        refine j_iload_n jb dX6_tally_22 3 rfl ?_
        refine j_if_eq (tgt := 53) jb dX6_tally_23 (by decide) (by omega) (fun c_23 => ?_) (fun c_23 => ?_)
        · skip
          refine j_norm (lv' := []) (st' := []) (ws' := [(h0, oX6 hO hU hK hX n o fin), (hO, aL x.g 240 O1), (hU, aI x.g 16 (zup Un pt (zOr (Un pt) u)))]) [] [0, 1, 2] rfl rfl (by decide) rfl ?_
          exact j_vret jb jr dX6_tally_53 ⟨_, rfl, rfl, ⟨fun t h1 h2 => by (by_cases e : t < j); { exact hi5 t h1 e }; { rw [hi6 _ (by omega), div_zero hu.1 (show 0 = u / 2 ^ j.toNat by omega) hi1 (by omega), Int.add_zero] }, fun q h => hi6 q (by omega)⟩⟩
        · skip
          refine j_aload_n jb dX6_tally_26 0 rfl ?_
          refine j_get jb f_X6_9 dX6_tally_27 0 rfl rfl ?_
          refine j_iload_n jb dX6_tally_30 1 rfl ?_
          refine j_bipush jb dX6_tally_31 (by decide) ?_
          refine j_imul jb dX6_tally_33 ?_
          refine j_iload jb dX6_tally_34 4 rfl ?_
          refine j_iadd jb dX6_tally_36 ?_
          refine j_dup2 jb dX6_tally_37 rfl rfl ?_
          refine j_lald jb dX6_tally_38 1 rfl (by omega) (by decide) ?_
          refine j_iload_n jb dX6_tally_39 3 rfl ?_
          refine j_i2l jb dX6_tally_40 (by omega) ?_
          refine j_ladd jb dX6_tally_41 ?_
          refine j_last (ws' := [(h0, oX6 hO hU hK hX n o fin), (hO, aL x.g 240 (zup O1 ((pt * 15) + j) ((O1 ((pt * 15) + j)) + left))), (hU, aI x.g 16 (zup Un pt (zOr (Un pt) u)))]) jb dX6_tally_42 1 rfl (by omega) (by decide) rfl ?_
          refine j_iload_n jb dX6_tally_43 3 rfl ?_
          refine j_iconst jb dX6_tally_44 ?_
          refine j_ishr jb dX6_tally_45 (by omega) (by decide) ?_
          refine j_topi (left / 2) (p1 _) ?_
          refine j_istore_n (lv' := [(3, .int (iI (left / 2))), (0, .ref h0), (1, .int (iI pt)), (2, .int (iI u)), (4, .int (iI j))]) jb dX6_tally_46 rfl (by decide) rfl ?_
          refine j_iinc (lv' := [(4, .int (iI (j + 1))), (3, .int (iI (left / 2))), (0, .ref h0), (1, .int (iI pt)), (2, .int (iI u))]) jb dX6_tally_47 4 rfl (by decide) rfl ?_
          refine j_goto (tgt := 15) jb dX6_tally_50 (by decide) ?_
          refine j_norm (lv' := [(0, .ref h0), (1, .int (iI pt)), (2, .int (iI u)), (3, .int (iI (left / 2))), (4, .int (iI (j + 1)))]) (st' := []) (ws' := [(h0, oX6 hO hU hK hX n o fin), (hO, aL x.g 240 (zup O1 ((pt * 15) + j) ((O1 ((pt * 15) + j)) + left))), (hU, aI x.g 16 (zup Un pt (zOr (Un pt) u)))]) [2, 3, 4, 1, 0] [0, 1, 2] rfl rfl (by decide) rfl ?_
          exact ih15 (left / 2) (j + 1) (zup O1 ((pt * 15) + j) ((O1 ((pt * 15) + j)) + left)) ⟨by omega, by omega, div_next hi1 hi3, by omega, fun t h1 h2 => by (by_cases e : t = j); { rw [e, zup_s, hi6 _ (by omega), hi3] }; { rw [zup_n (by omega)]; exact hi5 t h1 (by omega) }, fun q h => by rw [zup_n (by omega)]; exact hi6 q (by omega)⟩ (by omega)
  refine j_norm (lv' := [(0, .ref h0), (1, .int (iI pt)), (2, .int (iI u)), (3, .int (iI u)), (4, .int (iI 0))]) (st' := []) (ws' := [(h0, oX6 hO hU hK hX n o fin), (hO, aL x.g 240 On), (hU, aI x.g 16 (zup Un pt (zOr (Un pt) u)))]) [2, 3, 4, 1, 0] [0, 1, 2] rfl rfl (by decide) rfl ?_
  exact L15 _ u 0 On ⟨by decide, by decide, by rw [show (0 : Int).toNat = 0 from rfl, Int.pow_zero, Int.ediv_one], by omega, fun t h1 h2 => by omega, fun _ _ => rfl⟩ (Nat.lt_succ_self _)

set_option maxHeartbeats 4000000 in
set_option maxRecDepth 100000 in
theorem C_X6_weighPart (l : Launch) (g : GG) (h0 hO hU hK hX : Nat) (n o fin : Int) (On Un K0 X0 : Int → Int) (pt cnt : Int) (hp : 0 ≤ pt ∧ pt < 16) (hc : 0 ≤ cnt ∧ cnt ≤ 400) (hU9 : 0 ≤ Un pt ∧ Un pt < 16777216) (hS : ∀ t : Nat, t < 15 → 0 ≤ On (pt * 15 + t) ∧ On (pt * 15 + t) ≤ 17179869184) : Ctr l g yX6_weighPart cX6_weighPart 9 (some .int) 1 60 0 0 [.ref h0, .int (iI pt), .int (iI cnt)] [(h0, oX6 hO hU hK hX n o fin), (hO, aL g 240 On), (hU, aI g 16 Un), (hK, aI g 16 K0), (hX, aI g 16 X0)] (fun vv ww => ∃ (r xw : Int) (K2 X2 : Int → Int), vv = some (.int (iI r)) ∧ ww = [(h0, oX6 hO hU hK hX n o fin), (hO, aL g 240 On), (hU, aI g 16 Un), (hK, aI g 16 K2), (hX, aI g 16 X2)] ∧ isBl (Un pt) xw ∧ (r = (partSel (fun t => On (pt * 15 + t)) cnt xw).1 ∧ K2 pt = (partSel (fun t => On (pt * 15 + t)) cnt xw).2.1 ∧ X2 pt = (partSel (fun t => On (pt * 15 + t)) cnt xw).2.2) ∧ ∀ q, q ≠ pt → K2 q = K0 q ∧ X2 q = X0 q) := by
  refine Ctr.of [(0, .ref h0), (1, .int (iI pt)), (2, .int (iI cnt))] (by decide) (Nat.le_of_ble_eq_true rfl) rfl ?_
  intro x hxl hxg jb jr hin
  subst hxl; subst hxg
  refine j_bipush jb dX6_weighPart_0 (by decide) ?_
  refine j_aload_n jb dX6_weighPart_2 0 rfl ?_
  refine j_get jb f_X6_15 dX6_weighPart_3 0 rfl rfl ?_
  refine j_iload_n jb dX6_weighPart_6 1 rfl ?_
  refine j_iald jb dX6_weighPart_7 2 rfl (by omega) (by decide) ?_
  refine j_callS (wr := [(h0, oX6 hO hU hK hX n o fin), (hO, aL x.g 240 On), (hU, aI x.g 16 Un), (hK, aI x.g 16 K0), (hX, aI x.g 16 X0)]) jb k_J6_numberOfLeadingZeros_0f7a4 t_J6_numberOfLeadingZeros_0f7a4 l_X6_84 (C_J6_numberOfLeadingZeros_0f7a4 x.l x.g (Un pt) (by omega)) [] [0, 1, 2, 3, 4] (by decide) rfl rfl (by decide) (by decide) rfl rfl (Nat.le_of_ble_eq_true rfl) (by decide) dX6_weighPart_8 (fun v w hp => ?_)
  obtain ⟨rz, rfl, rfl, h8⟩ := hp
  refine j_norm (lv' := [(0, .ref h0), (1, .int (iI pt)), (2, .int (iI cnt))]) (st' := [.int (iI rz), .int (iI 32)]) (ws' := [(h0, oX6 hO hU hK hX n o fin), (hO, aL x.g 240 On), (hU, aI x.g 16 Un), (hK, aI x.g 16 K0), (hX, aI x.g 16 X0)]) [0, 1, 2] [0, 1, 2, 3, 4] rfl rfl (by decide) rfl ?_
  refine j_isub jb dX6_weighPart_11 ?_
  refine j_geni (fun xw e_xw => ?_)
  refine j_istore_n (lv' := [(3, .int (iI xw)), (0, .ref h0), (1, .int (iI pt)), (2, .int (iI cnt))]) jb dX6_weighPart_12 rfl (by decide) rfl ?_
  rw [← e_xw] at h8
  have hxw : 0 ≤ xw ∧ xw ≤ 24 := bl_24 h8 hU9.2
  have hcx := mul_in (A := 400) (C := 24) (a := cnt) (b := xw) (by omega) (by omega) (by decide)
  refine j_ldc2 (z := -1) jb q_X6_90 rfl dX6_weighPart_13 ?_
  refine j_lstore (lv' := [(4, .long (lI (-1))), (3, .int (iI xw)), (0, .ref h0), (1, .int (iI pt)), (2, .int (iI cnt))]) jb dX6_weighPart_16 (by decide) rfl ?_
  refine j_iconst jb dX6_weighPart_18 ?_
  refine j_istore (lv' := [(6, .int (iI 0)), (4, .long (lI (-1))), (3, .int (iI xw)), (0, .ref h0), (1, .int (iI pt)), (2, .int (iI cnt))]) jb dX6_weighPart_19 (by decide) rfl ?_
  have L21 : ∀ (fu : Nat) (best j : Int) (K1 X1 : Int → Int), (0 ≤ j ∧ j ≤ 15 ∧ (j = 0 → best = -1) ∧ (0 < j → best = (kBest (fun t => On (pt * 15 + t)) cnt (j - 1).toNat).1 ∧ K1 pt = (kBest (fun t => On (pt * 15 + t)) cnt (j - 1).toNat).2 ∧ X1 pt = -1) ∧ ∀ q, q ≠ pt → K1 q = K0 q ∧ X1 q = X0 q) → (15 - j).toNat < fu → JW x 0 0 21 [(0, .ref h0), (1, .int (iI pt)), (2, .int (iI cnt)), (3, .int (iI xw)), (4, .long (lI best)), (6, .int (iI j))] [] [(h0, oX6 hO hU hK hX n o fin), (hO, aL x.g 240 On), (hU, aI x.g 16 Un), (hK, aI x.g 16 K1), (hX, aI x.g 16 X1)] := by
    intro fu
    induction fu with
    | zero => intro best j K1 X1 _ hm; exact absurd hm (by omega)
    | succ fu ih =>
      intro best j K1 X1 ⟨hi1, hi2, hi3, hi4, hi5⟩ hm21
      have ih21 := ih
      clear ih
      refine j_iload jb dX6_weighPart_21 5 rfl ?_
      refine j_bipush jb dX6_weighPart_23 (by decide) ?_
      refine j_icmp_ge (tgt := 97) jb dX6_weighPart_25 (by decide) (by omega) (by omega) (fun c_25 => ?_) (fun c_25 => ?_)
      · skip
        have hj : j = 15 := by omega
        have hb4 := hi4 (by omega)
        rw [hj, show ((15 : Int) - 1).toNat = 14 from rfl] at hb4
        have hbi := (kBest_in (S := (fun t => On (pt * 15 + t))) hc hS 14 (by decide)).1
        refine j_bipush jb dX6_weighPart_97 (by decide) ?_
        refine j_iload_n jb dX6_weighPart_99 2 rfl ?_
        refine j_iload_n jb dX6_weighPart_100 3 rfl ?_
        refine j_imul jb dX6_weighPart_101 ?_
        refine j_iadd jb dX6_weighPart_102 ?_
        refine j_geni (fun iw e_iw => ?_)
        refine j_istore (lv' := [(6, .int (iI iw)), (0, .ref h0), (1, .int (iI pt)), (2, .int (iI cnt)), (3, .int (iI xw)), (4, .long (lI best))]) jb dX6_weighPart_103 (by decide) rfl ?_
        refine j_iload jb dX6_weighPart_105 0 rfl ?_
        refine j_i2l jb dX6_weighPart_107 (by omega) ?_
        refine j_lload jb dX6_weighPart_108 5 rfl ?_
        refine j_lcmp_ge (tgt := 134) jb dX6_weighPart_110 dX6_weighPart_111 (by decide) (by omega) (by omega) (fun c_110 => ?_) (fun c_110 => ?_)
        · skip
          refine j_lload jb dX6_weighPart_134 5 rfl ?_
          refine j_l2i jb dX6_weighPart_136 ?_
          refine j_norm (lv' := []) (st' := [.int (iI best)]) (ws' := [(h0, oX6 hO hU hK hX n o fin), (hO, aL x.g 240 On), (hU, aI x.g 16 Un), (hK, aI x.g 16 K1), (hX, aI x.g 16 X1)]) [] [0, 1, 2, 3, 4] rfl rfl (by decide) rfl ?_
          exact j_iret jb jr dX6_weighPart_137 ⟨_, xw, _, _, rfl, rfl, (by unfold partSel; first | (rw [if_pos (by omega)]; refine ⟨h8, ⟨by omega, ?_, ?_⟩, fun q hq => ?_⟩; { rw [zup_s] }; { rw [zup_s] }; { rw [zup_n hq, zup_n hq]; exact hi5 q hq }) | (rw [if_neg (by omega)]; exact ⟨h8, ⟨hb4.1, hb4.2.1, hb4.2.2⟩, hi5⟩))⟩
        · skip
          refine j_iload jb dX6_weighPart_114 0 rfl ?_
          refine j_i2l jb dX6_weighPart_116 (by omega) ?_
          refine j_lstore (lv' := [(4, .long (lI iw)), (6, .int (iI iw)), (0, .ref h0), (1, .int (iI pt)), (2, .int (iI cnt)), (3, .int (iI xw))]) jb dX6_weighPart_117 (by decide) rfl ?_
          refine j_aload_n jb dX6_weighPart_119 2 rfl ?_
          refine j_get jb f_X6_19 dX6_weighPart_120 0 rfl rfl ?_
          refine j_iload_n jb dX6_weighPart_123 3 rfl ?_
          refine j_bipush jb dX6_weighPart_124 (by decide) ?_
          refine j_iast (ws' := [(h0, oX6 hO hU hK hX n o fin), (hO, aL x.g 240 On), (hU, aI x.g 16 Un), (hK, aI x.g 16 (zup K1 pt 15)), (hX, aI x.g 16 X1)]) jb dX6_weighPart_126 3 rfl (by omega) (by decide) rfl ?_
          refine j_aload_n jb dX6_weighPart_127 2 rfl ?_
          refine j_get jb f_X6_22 dX6_weighPart_128 0 rfl rfl ?_
          refine j_iload_n jb dX6_weighPart_131 3 rfl ?_
          refine j_iload_n jb dX6_weighPart_132 5 rfl ?_
          refine j_iast (ws' := [(h0, oX6 hO hU hK hX n o fin), (hO, aL x.g 240 On), (hU, aI x.g 16 Un), (hK, aI x.g 16 (zup K1 pt 15)), (hX, aI x.g 16 (zup X1 pt xw))]) jb dX6_weighPart_133 4 rfl (by omega) (by decide) rfl ?_
          refine j_lload jb dX6_weighPart_134 0 rfl ?_
          refine j_l2i jb dX6_weighPart_136 ?_
          refine j_norm (lv' := []) (st' := [.int (iI iw)]) (ws' := [(h0, oX6 hO hU hK hX n o fin), (hO, aL x.g 240 On), (hU, aI x.g 16 Un), (hK, aI x.g 16 (zup K1 pt 15)), (hX, aI x.g 16 (zup X1 pt xw))]) [] [0, 1, 2, 3, 4] rfl rfl (by decide) rfl ?_
          exact j_iret jb jr dX6_weighPart_137 ⟨_, xw, _, _, rfl, rfl, (by unfold partSel; first | (rw [if_pos (by omega)]; refine ⟨h8, ⟨by omega, ?_, ?_⟩, fun q hq => ?_⟩; { rw [zup_s] }; { rw [zup_s] }; { rw [zup_n hq, zup_n hq]; exact hi5 q hq }) | (rw [if_neg (by omega)]; exact ⟨h8, ⟨hb4.1, hb4.2.1, hb4.2.2⟩, hi5⟩))⟩
      · skip
        refine j_ldc2 (z := 4) jb q_X6_92 rfl dX6_weighPart_28 ?_
        refine j_aload_n jb dX6_weighPart_31 0 rfl ?_
        refine j_get jb f_X6_9 dX6_weighPart_32 0 rfl rfl ?_
        refine j_iload_n jb dX6_weighPart_35 1 rfl ?_
        refine j_bipush jb dX6_weighPart_36 (by decide) ?_
        refine j_imul jb dX6_weighPart_38 ?_
        refine j_iload jb dX6_weighPart_39 5 rfl ?_
        refine j_iadd jb dX6_weighPart_41 ?_
        refine j_lald jb dX6_weighPart_42 1 rfl (by omega) (by decide) ?_
        refine j_ladd jb dX6_weighPart_43 ?_
        have hcj := mul_in (A := 400) (C := 15) (a := cnt) (b := 1 + j) (by omega) (by omega) (by decide)
        have hSj := hS j.toNat (by omega)
        rw [show (j.toNat : Int) = j by omega] at hSj
        refine j_iload_n jb dX6_weighPart_44 2 rfl ?_
        refine j_i2l jb dX6_weighPart_45 (by omega) ?_
        refine j_iconst jb dX6_weighPart_46 ?_
        refine j_iload jb dX6_weighPart_47 5 rfl ?_
        refine j_iadd jb dX6_weighPart_49 ?_
        refine j_i2l jb dX6_weighPart_50 (by omega) ?_
        refine j_lmul jb dX6_weighPart_51 ?_
        refine j_ladd jb dX6_weighPart_52 ?_
        refine j_genl (fun bt e_bt => ?_)
        refine j_lstore (lv' := [(7, .long (lI bt)), (0, .ref h0), (1, .int (iI pt)), (2, .int (iI cnt)), (3, .int (iI xw)), (4, .long (lI best)), (6, .int (iI j))]) jb dX6_weighPart_53 (by decide) rfl ?_
        have hbt : bt = kb (fun t => On (pt * 15 + t)) cnt j.toNat := by (rw [e_bt]; show _ = 4 + On (pt * 15 + (j.toNat : Int)) + cnt * (1 + (j.toNat : Int)); rw [show (j.toNat : Int) = j by omega])
        have hbi := kb_in (S := (fun t => On (pt * 15 + t))) hc hS (j := j.toNat) (by omega)
        have hbb : 0 < j → 4 ≤ best ∧ best ≤ 17179876000 := fun h => by (rw [(hi4 h).1]; exact (kBest_in (S := (fun t => On (pt * 15 + t))) hc hS (j - 1).toNat (by omega)).1)
        refine j_lload jb dX6_weighPart_55 5 rfl ?_
        refine j_ldc2 (z := -1) jb q_X6_90 rfl dX6_weighPart_57 ?_
        refine j_lcmp_eq (tgt := 72) jb dX6_weighPart_60 dX6_weighPart_61 (by decide) (by (by_cases q : j = 0); { have := hi3 q; omega }; { have := hbb (by omega); omega }) (by omega) (fun c_60 => ?_) (fun c_60 => ?_)
        · skip
          refine j_lload jb dX6_weighPart_72 0 rfl ?_
          refine j_lstore (lv' := [(4, .long (lI bt)), (7, .long (lI bt)), (0, .ref h0), (1, .int (iI pt)), (2, .int (iI cnt)), (3, .int (iI xw)), (6, .int (iI j))]) jb dX6_weighPart_74 (by decide) rfl ?_
          refine j_aload_n jb dX6_weighPart_76 2 rfl ?_
          refine j_get jb f_X6_19 dX6_weighPart_77 0 rfl rfl ?_
          refine j_iload_n jb dX6_weighPart_80 3 rfl ?_
          refine j_iload jb dX6_weighPart_81 6 rfl ?_
          refine j_iast (ws' := [(h0, oX6 hO hU hK hX n o fin), (hO, aL x.g 240 On), (hU, aI x.g 16 Un), (hK, aI x.g 16 (zup K1 pt j)), (hX, aI x.g 16 X1)]) jb dX6_weighPart_83 3 rfl (by omega) (by decide) rfl ?_
          refine j_aload_n jb dX6_weighPart_84 2 rfl ?_
          refine j_get jb f_X6_22 dX6_weighPart_85 0 rfl rfl ?_
          refine j_iload_n jb dX6_weighPart_88 3 rfl ?_
          refine j_iconst jb dX6_weighPart_89 ?_
          refine j_iast (ws' := [(h0, oX6 hO hU hK hX n o fin), (hO, aL x.g 240 On), (hU, aI x.g 16 Un), (hK, aI x.g 16 (zup K1 pt j)), (hX, aI x.g 16 (zup X1 pt (-1)))]) jb dX6_weighPart_90 4 rfl (by omega) (by decide) rfl ?_
          refine j_iinc (lv' := [(6, .int (iI (j + 1))), (4, .long (lI bt)), (7, .long (lI bt)), (0, .ref h0), (1, .int (iI pt)), (2, .int (iI cnt)), (3, .int (iI xw))]) jb dX6_weighPart_91 6 rfl (by decide) rfl ?_
          refine j_goto (tgt := 21) jb dX6_weighPart_94 (by decide) ?_
          refine j_norm (lv' := [(0, .ref h0), (1, .int (iI pt)), (2, .int (iI cnt)), (3, .int (iI xw)), (4, .long (lI bt)), (6, .int (iI (j + 1)))]) (st' := []) (ws' := [(h0, oX6 hO hU hK hX n o fin), (hO, aL x.g 240 On), (hU, aI x.g 16 Un), (hK, aI x.g 16 (zup K1 pt j)), (hX, aI x.g 16 (zup X1 pt (-1)))]) [3, 4, 5, 6, 1, 0] [0, 1, 2, 3, 4] rfl rfl (by decide) rfl ?_
          exact ih21 bt (j + 1) (zup K1 pt j) (zup X1 pt (-1)) (by first | (have z := kB_new (S := (fun t => On (pt * 15 + t))) (cnt := cnt) hi1 (by first | (left; (by_cases q : j = 0); { exact q }; { have := hbb (by omega); omega }) | (right; rw [← hbt, ← (hi4 (by (by_cases q : j = 0); { have := hi3 q; omega }; { omega })).1]; exact Int.not_le.mp c_68)); exact ⟨by omega, by omega, fun h => by omega, fun _ => by rw [show j + 1 - 1 = j by omega, z, zup_s, zup_s]; exact ⟨hbt, rfl, rfl⟩, fun q hq => by rw [zup_n hq, zup_n hq]; exact hi5 q hq⟩) | (have hj0 : 0 < j := by (by_cases q : j = 0); { have := hi3 q; omega }; { omega }); have z := kB_old (S := (fun t => On (pt * 15 + t))) (cnt := cnt) hj0 (by rw [← hbt, ← (hi4 hj0).1]; omega); exact ⟨by omega, by omega, fun h => by omega, fun _ => by rw [show j + 1 - 1 = j by omega, z]; exact hi4 hj0, hi5⟩) (by omega)
        · skip
          refine j_lload jb dX6_weighPart_64 0 rfl ?_
          refine j_lload jb dX6_weighPart_66 5 rfl ?_
          refine j_lcmp_ge (tgt := 91) jb dX6_weighPart_68 dX6_weighPart_69 (by decide) (by omega) (by (by_cases q : j = 0); { have := hi3 q; omega }; { have := hbb (by omega); omega }) (fun c_68 => ?_) (fun c_68 => ?_)
          · skip
            refine j_iinc (lv' := [(6, .int (iI (j + 1))), (7, .long (lI bt)), (0, .ref h0), (1, .int (iI pt)), (2, .int (iI cnt)), (3, .int (iI xw)), (4, .long (lI best))]) jb dX6_weighPart_91 6 rfl (by decide) rfl ?_
            refine j_goto (tgt := 21) jb dX6_weighPart_94 (by decide) ?_
            refine j_norm (lv' := [(0, .ref h0), (1, .int (iI pt)), (2, .int (iI cnt)), (3, .int (iI xw)), (4, .long (lI best)), (6, .int (iI (j + 1)))]) (st' := []) (ws' := [(h0, oX6 hO hU hK hX n o fin), (hO, aL x.g 240 On), (hU, aI x.g 16 Un), (hK, aI x.g 16 K1), (hX, aI x.g 16 X1)]) [2, 3, 4, 5, 6, 0] [0, 1, 2, 3, 4] rfl rfl (by decide) rfl ?_
            exact ih21 best (j + 1) K1 X1 (by first | (have z := kB_new (S := (fun t => On (pt * 15 + t))) (cnt := cnt) hi1 (by first | (left; (by_cases q : j = 0); { exact q }; { have := hbb (by omega); omega }) | (right; rw [← hbt, ← (hi4 (by (by_cases q : j = 0); { have := hi3 q; omega }; { omega })).1]; exact Int.not_le.mp c_68)); exact ⟨by omega, by omega, fun h => by omega, fun _ => by rw [show j + 1 - 1 = j by omega, z, zup_s, zup_s]; exact ⟨hbt, rfl, rfl⟩, fun q hq => by rw [zup_n hq, zup_n hq]; exact hi5 q hq⟩) | (have hj0 : 0 < j := by (by_cases q : j = 0); { have := hi3 q; omega }; { omega }); have z := kB_old (S := (fun t => On (pt * 15 + t))) (cnt := cnt) hj0 (by rw [← hbt, ← (hi4 hj0).1]; omega); exact ⟨by omega, by omega, fun h => by omega, fun _ => by rw [show j + 1 - 1 = j by omega, z]; exact hi4 hj0, hi5⟩) (by omega)
          · skip
            refine j_lload jb dX6_weighPart_72 0 rfl ?_
            refine j_lstore (lv' := [(4, .long (lI bt)), (7, .long (lI bt)), (0, .ref h0), (1, .int (iI pt)), (2, .int (iI cnt)), (3, .int (iI xw)), (6, .int (iI j))]) jb dX6_weighPart_74 (by decide) rfl ?_
            refine j_aload_n jb dX6_weighPart_76 2 rfl ?_
            refine j_get jb f_X6_19 dX6_weighPart_77 0 rfl rfl ?_
            refine j_iload_n jb dX6_weighPart_80 3 rfl ?_
            refine j_iload jb dX6_weighPart_81 6 rfl ?_
            refine j_iast (ws' := [(h0, oX6 hO hU hK hX n o fin), (hO, aL x.g 240 On), (hU, aI x.g 16 Un), (hK, aI x.g 16 (zup K1 pt j)), (hX, aI x.g 16 X1)]) jb dX6_weighPart_83 3 rfl (by omega) (by decide) rfl ?_
            refine j_aload_n jb dX6_weighPart_84 2 rfl ?_
            refine j_get jb f_X6_22 dX6_weighPart_85 0 rfl rfl ?_
            refine j_iload_n jb dX6_weighPart_88 3 rfl ?_
            refine j_iconst jb dX6_weighPart_89 ?_
            refine j_iast (ws' := [(h0, oX6 hO hU hK hX n o fin), (hO, aL x.g 240 On), (hU, aI x.g 16 Un), (hK, aI x.g 16 (zup K1 pt j)), (hX, aI x.g 16 (zup X1 pt (-1)))]) jb dX6_weighPart_90 4 rfl (by omega) (by decide) rfl ?_
            refine j_iinc (lv' := [(6, .int (iI (j + 1))), (4, .long (lI bt)), (7, .long (lI bt)), (0, .ref h0), (1, .int (iI pt)), (2, .int (iI cnt)), (3, .int (iI xw))]) jb dX6_weighPart_91 6 rfl (by decide) rfl ?_
            refine j_goto (tgt := 21) jb dX6_weighPart_94 (by decide) ?_
            refine j_norm (lv' := [(0, .ref h0), (1, .int (iI pt)), (2, .int (iI cnt)), (3, .int (iI xw)), (4, .long (lI bt)), (6, .int (iI (j + 1)))]) (st' := []) (ws' := [(h0, oX6 hO hU hK hX n o fin), (hO, aL x.g 240 On), (hU, aI x.g 16 Un), (hK, aI x.g 16 (zup K1 pt j)), (hX, aI x.g 16 (zup X1 pt (-1)))]) [3, 4, 5, 6, 1, 0] [0, 1, 2, 3, 4] rfl rfl (by decide) rfl ?_
            exact ih21 bt (j + 1) (zup K1 pt j) (zup X1 pt (-1)) (by first | (have z := kB_new (S := (fun t => On (pt * 15 + t))) (cnt := cnt) hi1 (by first | (left; (by_cases q : j = 0); { exact q }; { have := hbb (by omega); omega }) | (right; rw [← hbt, ← (hi4 (by (by_cases q : j = 0); { have := hi3 q; omega }; { omega })).1]; exact Int.not_le.mp c_68)); exact ⟨by omega, by omega, fun h => by omega, fun _ => by rw [show j + 1 - 1 = j by omega, z, zup_s, zup_s]; exact ⟨hbt, rfl, rfl⟩, fun q hq => by rw [zup_n hq, zup_n hq]; exact hi5 q hq⟩) | (have hj0 : 0 < j := by (by_cases q : j = 0); { have := hi3 q; omega }; { omega }); have z := kB_old (S := (fun t => On (pt * 15 + t))) (cnt := cnt) hj0 (by rw [← hbt, ← (hi4 hj0).1]; omega); exact ⟨by omega, by omega, fun h => by omega, fun _ => by rw [show j + 1 - 1 = j by omega, z]; exact hi4 hj0, hi5⟩) (by omega)
  refine j_norm (lv' := [(0, .ref h0), (1, .int (iI pt)), (2, .int (iI cnt)), (3, .int (iI xw)), (4, .long (lI (-1))), (6, .int (iI 0))]) (st' := []) (ws' := [(h0, oX6 hO hU hK hX n o fin), (hO, aL x.g 240 On), (hU, aI x.g 16 Un), (hK, aI x.g 16 K0), (hX, aI x.g 16 X0)]) [3, 4, 5, 2, 1, 0] [0, 1, 2, 3, 4] rfl rfl (by decide) rfl ?_
  exact L21 _ (-1) 0 K0 X0 ⟨by decide, by decide, fun _ => rfl, fun h => by omega, fun _ _ => ⟨rfl, rfl⟩⟩ (Nat.lt_succ_self _)

set_option maxHeartbeats 4000000 in
set_option maxRecDepth 100000 in
theorem C_X6_joinPairs (l : Launch) (g : GG) (h0 hO hU hK hX : Nat) (n o fin : Int) (On Un : Int → Int) (pr : Int) (hp : 0 ≤ pr ∧ pr ≤ 8) : Ctr l g yX6_joinPairs cX6_joinPairs 4 none 0 0 0 0 [.ref h0, .int (iI pr)] [(h0, oX6 hO hU hK hX n o fin), (hO, aL g 240 On), (hU, aI g 16 Un)] (fun vv ww => ∃ (On2 Un2 : Int → Int), vv = none ∧ ww = [(h0, oX6 hO hU hK hX n o fin), (hO, aL g 240 On2), (hU, aI g 16 Un2)] ∧ (∀ q, 0 ≤ q → q < pr * 15 → On2 q = jpO On q) ∧ (∀ j, 0 ≤ j → j < pr → Un2 j = jpU Un j)) := by
  refine Ctr.of [(0, .ref h0), (1, .int (iI pr))] (by decide) (Nat.le_of_ble_eq_true rfl) rfl ?_
  intro x hxl hxg jb jr hin
  subst hxl; subst hxg
  refine j_iconst jb dX6_joinPairs_0 ?_
  refine j_istore_n (lv' := [(2, .int (iI 0)), (0, .ref h0), (1, .int (iI pr))]) jb dX6_joinPairs_1 rfl (by decide) rfl ?_
  have L2 : ∀ (fu : Nat) (j : Int) (O1 U1 : Int → Int), (0 ≤ j ∧ j ≤ pr ∧ (∀ q, 0 ≤ q → q < j * 15 → O1 q = jpO On q) ∧ (∀ q, j * 15 ≤ q → O1 q = On q) ∧ (∀ q, 0 ≤ q → q < j → U1 q = jpU Un q) ∧ (∀ q, j ≤ q → U1 q = Un q)) → (pr - j).toNat < fu → JW x 0 0 2 [(0, .ref h0), (1, .int (iI pr)), (2, .int (iI j))] [] [(h0, oX6 hO hU hK hX n o fin), (hO, aL x.g 240 O1), (hU, aI x.g 16 U1)] := by
    intro fu
    induction fu with
    | zero => intro j O1 U1 _ hm; exact absurd hm (by omega)
    | succ fu ih =>
      intro j O1 U1 ⟨hi1, hi2, hi3, hi4, hi5, hi6⟩ hm2
      have ih2 := ih
      clear ih
      refine j_iload_n jb dX6_joinPairs_2 2 rfl ?_
      refine j_iload_n jb dX6_joinPairs_3 1 rfl ?_
      refine j_icmp_ge (tgt := 92) jb dX6_joinPairs_4 (by decide) (by omega) (by omega) (fun c_4 => ?_) (fun c_4 => ?_)
      · skip
        refine j_norm (lv' := []) (st' := []) (ws' := [(h0, oX6 hO hU hK hX n o fin), (hO, aL x.g 240 O1), (hU, aI x.g 16 U1)]) [] [0, 1, 2] rfl rfl (by decide) rfl ?_
        exact j_vret jb jr dX6_joinPairs_92 ⟨_, _, rfl, rfl, ⟨fun q h1 h2 => hi3 q h1 (by omega), fun q h1 h2 => hi5 q h1 (by omega)⟩⟩
      · skip
        refine j_aload_n jb dX6_joinPairs_7 0 rfl ?_
        refine j_get jb f_X6_15 dX6_joinPairs_8 0 rfl rfl ?_
        refine j_iload_n jb dX6_joinPairs_11 2 rfl ?_
        refine j_aload_n jb dX6_joinPairs_12 0 rfl ?_
        refine j_get jb f_X6_15 dX6_joinPairs_13 0 rfl rfl ?_
        refine j_iconst jb dX6_joinPairs_16 ?_
        refine j_iload_n jb dX6_joinPairs_17 2 rfl ?_
        refine j_imul jb dX6_joinPairs_18 ?_
        refine j_iald jb dX6_joinPairs_19 2 rfl (by omega) (by decide) ?_
        refine j_aload_n jb dX6_joinPairs_20 0 rfl ?_
        refine j_get jb f_X6_15 dX6_joinPairs_21 0 rfl rfl ?_
        refine j_iconst jb dX6_joinPairs_24 ?_
        refine j_iload_n jb dX6_joinPairs_25 2 rfl ?_
        refine j_imul jb dX6_joinPairs_26 ?_
        refine j_iconst jb dX6_joinPairs_27 ?_
        refine j_iadd jb dX6_joinPairs_28 ?_
        refine j_iald jb dX6_joinPairs_29 2 rfl (by omega) (by decide) ?_
        refine j_ior jb dX6_joinPairs_30 ?_
        refine j_iast (ws' := [(h0, oX6 hO hU hK hX n o fin), (hO, aL x.g 240 O1), (hU, aI x.g 16 (zup U1 j (zOr (U1 (2 * j)) (U1 ((2 * j) + 1)))))]) jb dX6_joinPairs_31 2 rfl (by omega) (by decide) rfl ?_
        refine j_iconst jb dX6_joinPairs_32 ?_
        refine j_istore_n (lv' := [(3, .int (iI 0)), (0, .ref h0), (1, .int (iI pr)), (2, .int (iI j))]) jb dX6_joinPairs_33 rfl (by decide) rfl ?_
        have L34 : ∀ (fu : Nat) (t : Int) (O2 : Int → Int), (0 ≤ t ∧ t ≤ 15 ∧ (∀ q, 0 ≤ q → q < j * 15 + t → O2 q = jpO On q) ∧ (∀ q, j * 15 + t ≤ q → O2 q = On q)) → (15 - t).toNat < fu → JW x 0 0 34 [(0, .ref h0), (1, .int (iI pr)), (2, .int (iI j)), (3, .int (iI t))] [] [(h0, oX6 hO hU hK hX n o fin), (hO, aL x.g 240 O2), (hU, aI x.g 16 (zup U1 j (zOr (U1 (2 * j)) (U1 ((2 * j) + 1)))))] := by
          intro fu
          induction fu with
          | zero => intro t O2 _ hm; exact absurd hm (by omega)
          | succ fu ih =>
            intro t O2 ⟨hk1, hk2, hk3, hk4⟩ hm34
            have ih34 := ih
            clear ih
            refine j_iload_n jb dX6_joinPairs_34 3 rfl ?_
            refine j_bipush jb dX6_joinPairs_35 (by decide) ?_
            refine j_icmp_ge (tgt := 86) jb dX6_joinPairs_37 (by decide) (by omega) (by omega) (fun c_37 => ?_) (fun c_37 => ?_)
            · skip
              refine j_iinc (lv' := [(2, .int (iI (j + 1))), (0, .ref h0), (1, .int (iI pr)), (3, .int (iI t))]) jb dX6_joinPairs_86 2 rfl (by decide) rfl ?_
              refine j_goto (tgt := 2) jb dX6_joinPairs_89 (by decide) ?_
              refine j_norm (lv' := [(0, .ref h0), (1, .int (iI pr)), (2, .int (iI (j + 1)))]) (st' := []) (ws' := [(h0, oX6 hO hU hK hX n o fin), (hO, aL x.g 240 O2), (hU, aI x.g 16 (zup U1 j (zOr (U1 (2 * j)) (U1 ((2 * j) + 1)))))]) [1, 2, 0] [0, 1, 2] rfl rfl (by decide) rfl ?_
              exact ih2 (j + 1) O2 (zup U1 j (zOr (U1 (2 * j)) (U1 ((2 * j) + 1)))) ⟨by omega, by omega, fun q h1 h2 => hk3 q h1 (by omega), fun q h => hk4 q (by omega), fun q h1 h2 => by (by_cases e : q = j); { rw [e, zup_s, hi6 _ (by omega), hi6 _ (by omega)]; rfl }; { rw [zup_n e]; exact hi5 q h1 (by omega) }, fun q h => by rw [zup_n (by omega)]; exact hi6 q (by omega)⟩ (by omega)
            · skip
              refine j_aload_n jb dX6_joinPairs_40 0 rfl ?_
              refine j_get jb f_X6_9 dX6_joinPairs_41 0 rfl rfl ?_
              refine j_iload_n jb dX6_joinPairs_44 2 rfl ?_
              refine j_bipush jb dX6_joinPairs_45 (by decide) ?_
              refine j_imul jb dX6_joinPairs_47 ?_
              refine j_iload_n jb dX6_joinPairs_48 3 rfl ?_
              refine j_iadd jb dX6_joinPairs_49 ?_
              refine j_aload_n jb dX6_joinPairs_50 0 rfl ?_
              refine j_get jb f_X6_9 dX6_joinPairs_51 0 rfl rfl ?_
              refine j_iconst jb dX6_joinPairs_54 ?_
              refine j_iload_n jb dX6_joinPairs_55 2 rfl ?_
              refine j_imul jb dX6_joinPairs_56 ?_
              refine j_bipush jb dX6_joinPairs_57 (by decide) ?_
              refine j_imul jb dX6_joinPairs_59 ?_
              refine j_iload_n jb dX6_joinPairs_60 3 rfl ?_
              refine j_iadd jb dX6_joinPairs_61 ?_
              refine j_lald jb dX6_joinPairs_62 1 rfl (by omega) (by decide) ?_
              refine j_aload_n jb dX6_joinPairs_63 0 rfl ?_
              refine j_get jb f_X6_9 dX6_joinPairs_64 0 rfl rfl ?_
              refine j_iconst jb dX6_joinPairs_67 ?_
              refine j_iload_n jb dX6_joinPairs_68 2 rfl ?_
              refine j_imul jb dX6_joinPairs_69 ?_
              refine j_iconst jb dX6_joinPairs_70 ?_
              refine j_iadd jb dX6_joinPairs_71 ?_
              refine j_bipush jb dX6_joinPairs_72 (by decide) ?_
              refine j_imul jb dX6_joinPairs_74 ?_
              refine j_iload_n jb dX6_joinPairs_75 3 rfl ?_
              refine j_iadd jb dX6_joinPairs_76 ?_
              refine j_lald jb dX6_joinPairs_77 1 rfl (by omega) (by decide) ?_
              refine j_ladd jb dX6_joinPairs_78 ?_
              refine j_last (ws' := [(h0, oX6 hO hU hK hX n o fin), (hO, aL x.g 240 (zup O2 ((j * 15) + t) ((O2 (((2 * j) * 15) + t)) + (O2 ((((2 * j) + 1) * 15) + t))))), (hU, aI x.g 16 (zup U1 j (zOr (U1 (2 * j)) (U1 ((2 * j) + 1)))))]) jb dX6_joinPairs_79 1 rfl (by omega) (by decide) rfl ?_
              refine j_iinc (lv' := [(3, .int (iI (t + 1))), (0, .ref h0), (1, .int (iI pr)), (2, .int (iI j))]) jb dX6_joinPairs_80 3 rfl (by decide) rfl ?_
              refine j_goto (tgt := 34) jb dX6_joinPairs_83 (by decide) ?_
              refine j_norm (lv' := [(0, .ref h0), (1, .int (iI pr)), (2, .int (iI j)), (3, .int (iI (t + 1)))]) (st' := []) (ws' := [(h0, oX6 hO hU hK hX n o fin), (hO, aL x.g 240 (zup O2 ((j * 15) + t) ((O2 (((2 * j) * 15) + t)) + (O2 ((((2 * j) + 1) * 15) + t))))), (hU, aI x.g 16 (zup U1 j (zOr (U1 (2 * j)) (U1 ((2 * j) + 1)))))]) [1, 2, 3, 0] [0, 1, 2] rfl rfl (by decide) rfl ?_
              exact ih34 (t + 1) (zup O2 ((j * 15) + t) ((O2 (((2 * j) * 15) + t)) + (O2 ((((2 * j) + 1) * 15) + t)))) ⟨by omega, by omega, fun q h1 h2 => by (by_cases e : q = j * 15 + t); { rw [e, zup_s, hk4 _ (by omega), hk4 _ (by omega)]; unfold jpO; rw [show (j * 15 + t) / 15 = j by omega, show (j * 15 + t) % 15 = t by omega] }; { rw [zup_n e]; exact hk3 q h1 (by omega) }, fun q h => by rw [zup_n (by omega)]; exact hk4 q (by omega)⟩ (by omega)
        refine j_norm (lv' := [(0, .ref h0), (1, .int (iI pr)), (2, .int (iI j)), (3, .int (iI 0))]) (st' := []) (ws' := [(h0, oX6 hO hU hK hX n o fin), (hO, aL x.g 240 O1), (hU, aI x.g 16 (zup U1 j (zOr (U1 (2 * j)) (U1 ((2 * j) + 1)))))]) [1, 2, 3, 0] [0, 1, 2] rfl rfl (by decide) rfl ?_
        exact L34 _ 0 O1 ⟨by decide, by decide, fun q h1 h2 => hi3 q h1 (by omega), fun q h => hi4 q (by omega)⟩ (Nat.lt_succ_self _)
  refine j_norm (lv' := [(0, .ref h0), (1, .int (iI pr)), (2, .int (iI 0))]) (st' := []) (ws' := [(h0, oX6 hO hU hK hX n o fin), (hO, aL x.g 240 On), (hU, aI x.g 16 Un)]) [1, 2, 0] [0, 1, 2] rfl rfl (by decide) rfl ?_
  exact L2 _ 0 On Un ⟨by decide, hp.1, fun q h1 h2 => by omega, fun _ _ => rfl, fun q h1 h2 => by omega, fun _ _ => rfl⟩ (Nat.lt_succ_self _)

