set_option maxHeartbeats 4000000 in
set_option maxRecDepth 100000 in
theorem C_X7_foretellingOf_7 (l : Launch) (g : GG) (h0 v0 w0 x0 P0 t0 : Nat)  : Ctr l g yX7_foretellingOf cX7_foretellingOf 2 (some (.object "SamplePacks$Foretelling")) 1 30 0 0 [.ref h0, .int (iI 7)] [(h0, oX7 v0 w0 x0 P0 t0)] (fun vv ww => vv = some (.ref w0) ∧ ww = [(h0, oX7 v0 w0 x0 P0 t0)]) := by
  refine Ctr.of [(0, .ref h0), (1, .int (iI 7))] (by decide) (Nat.le_of_ble_eq_true rfl) rfl ?_
  intro x hxl hxg jb jr hin
  subst hxl; subst hxg
  refine j_iload_n jb dX7_foretellingOf_0 1 rfl ?_
  refine j_bipush jb dX7_foretellingOf_1 (by decide) ?_
  refine j_icmp_ne (tgt := 11) jb dX7_foretellingOf_3 (by decide) (by decide) (by decide) (fun h => absurd h (by decide)) (fun _ => ?_)
  refine j_aload_n jb dX7_foretellingOf_6 0 rfl ?_
  refine j_get jb f_X7_39 dX7_foretellingOf_7 0 rfl rfl ?_
  refine j_norm (lv' := []) (st' := [.ref w0]) (ws' := [(h0, oX7 v0 w0 x0 P0 t0)]) [] [0] rfl rfl (by decide) rfl ?_
  exact j_aret jb jr dX7_foretellingOf_10 ⟨rfl, rfl⟩

set_option maxHeartbeats 4000000 in
set_option maxRecDepth 100000 in
theorem C_X7_foretellingOf_f (l : Launch) (g : GG) (h0 v0 w0 x0 P0 t0 xc : Nat) (kind fo fs : Int) (fc : Int → Int) (hk : 2 ≤ kind ∧ kind ≤ 6) : Ctr l g yX7_foretellingOf cX7_foretellingOf 2 (some (.object "SamplePacks$Foretelling")) 1 30 0 0 [.ref h0, .int (iI kind)] [(h0, oX7 v0 w0 x0 P0 t0), (x0, oX1 xc fo fs), (xc, aI g 4 fc)] (fun vv ww => ∃ (c2 : Int → Int), vv = some (.ref x0) ∧ ww = [(h0, oX7 v0 w0 x0 P0 t0), (x0, oX1 xc (kind - 2) 0), (xc, aI g 4 c2)] ∧ ∀ j, 0 ≤ j → j < 4 → c2 j = zFixed ((kind - 2) * 4 + j).toNat) := by
  refine Ctr.of [(0, .ref h0), (1, .int (iI kind))] (by decide) (Nat.le_of_ble_eq_true rfl) rfl ?_
  intro x hxl hxg jb jr hin
  subst hxl; subst hxg
  refine j_iload_n jb dX7_foretellingOf_0 1 rfl ?_
  refine j_bipush jb dX7_foretellingOf_1 (by decide) ?_
  refine j_icmp_ne (tgt := 11) jb dX7_foretellingOf_3 (by decide) (by omega) (by omega) (fun c_3 => ?_) (fun c_3 => ?_)
  · skip
    refine j_aload_n jb dX7_foretellingOf_11 0 rfl ?_
    refine j_get jb f_X7_21 dX7_foretellingOf_12 0 rfl rfl ?_
    refine j_iload_n jb dX7_foretellingOf_15 1 rfl ?_
    refine j_iconst jb dX7_foretellingOf_16 ?_
    refine j_isub jb dX7_foretellingOf_17 ?_
    refine j_callV (wr := [(h0, oX7 v0 w0 x0 P0 t0)]) jb k_X1_becomeFixed i_X1_becomeFixed s_X1_becomeFixed l_X7_42 (C_X1_becomeFixed x.l x.g x0 xc fc fo fs (kind - 2) (by omega)) 1 3 rfl rfl rfl [1, 2] [0] (by decide) rfl rfl (by decide) (by decide) rfl rfl (Nat.le_of_ble_eq_true rfl) (by decide) dX7_foretellingOf_18 (fun v w hp => ?_)
    obtain ⟨c2_18, rfl, rfl, h18⟩ := hp
    refine j_norm (lv' := [(0, .ref h0), (1, .int (iI kind))]) (st' := []) (ws' := [(h0, oX7 v0 w0 x0 P0 t0), (x0, oX1 xc (kind - 2) 0), (xc, aI x.g 4 c2_18)]) [0, 1] [0, 1, 2] rfl rfl (by decide) rfl ?_
    refine j_aload_n jb dX7_foretellingOf_21 0 rfl ?_
    refine j_get jb f_X7_21 dX7_foretellingOf_22 0 rfl rfl ?_
    refine j_norm (lv' := []) (st' := [.ref x0]) (ws' := [(h0, oX7 v0 w0 x0 P0 t0), (x0, oX1 xc (kind - 2) 0), (xc, aI x.g 4 c2_18)]) [] [0, 1, 2] rfl rfl (by decide) rfl ?_
    exact j_aret jb jr dX7_foretellingOf_25 ⟨_, rfl, rfl, h18⟩
  · skip
    exact absurd c_3 (by omega)

set_option maxHeartbeats 4000000 in
set_option maxRecDepth 100000 in
theorem C_X7_weighForetold_7 (l : Launch) (g : GG) (h0 v0 w0 x0 P0 t0 hv wc xc hO hU hK hX tk tx : Nat) (n b w oo os fo fs n1 o1 f1 kd ws bi p0 : Int) (v oc fc On Un K0 X0 fk0 fx0 : Int → Int) (hn : 1 ≤ n ∧ n ≤ 400) (hb : 0 ≤ b ∧ b ≤ 17) (hv9 : vOk v n) (hoo : 0 ≤ oo ∧ oo ≤ 4) (hos : 0 < oo → 0 ≤ os ∧ os ≤ 15) (hcf : cfOk oc) : Ctr l g yX7_weighForetold cX7_weighForetold 5 (some .int) 3 160 0 0 [.ref h0, .int (iI 7)] [(h0, oX7 v0 w0 x0 P0 t0), (v0, oX10 hv n b w), (hv, aI g 400 v), (w0, oX1 wc oo os), (wc, aI g 4 oc), (P0, oX6 hO hU hK hX n1 o1 f1), (hO, aL g 240 On), (hU, aI g 16 Un), (hK, aI g 16 K0), (hX, aI g 16 X0), (t0, oX8 tk tx kd ws bi p0), (tk, aI g 16 fk0), (tx, aI g 16 fx0)] (fun vv ww => ∃ (r fp n2 o2 f2 : Int) (On2 Un2 K2 X2 fk2 fx2 : Int → Int), vv = some (.int (iI r)) ∧ ww = [(h0, oX7 v0 w0 x0 P0 t0), (v0, oX10 hv n b w), (hv, aI g 400 v), (w0, oX1 wc oo os), (wc, aI g 4 oc), (P0, oX6 hO hU hK hX n2 o2 f2), (hO, aL g 240 On2), (hU, aI g 16 Un2), (hK, aI g 16 K2), (hX, aI g 16 X2), (t0, oX8 tk tx kd ws bi fp), (tk, aI g 16 fk2), (tx, aI g 16 fx2)] ∧ r = price v n b oo os oc 7 ∧ (r ≠ -1 → rowTold v n oo os oc 7 fp fk2 fx2) ∧ -1 ≤ r ∧ r ≤ 300000) := by
  refine Ctr.of [(0, .ref h0), (1, .int (iI 7))] (by decide) (Nat.le_of_ble_eq_true rfl) rfl ?_
  intro x hxl hxg jb jr hin
  subst hxl; subst hxg
  refine j_aload_n jb dX7_weighForetold_0 0 rfl ?_
  refine j_iload_n jb dX7_weighForetold_1 1 rfl ?_
  refine j_callV (wr := [(v0, oX10 hv n b w), (hv, aI x.g 400 v), (w0, oX1 wc oo os), (wc, aI x.g 4 oc), (P0, oX6 hO hU hK hX n1 o1 f1), (hO, aL x.g 240 On), (hU, aI x.g 16 Un), (hK, aI x.g 16 K0), (hX, aI x.g 16 X0), (t0, oX8 tk tx kd ws bi p0), (tk, aI x.g 16 fk0), (tx, aI x.g 16 fx0)]) jb k_X7_foretellingOf i_X7_foretellingOf s_X7_foretellingOf l_X7_85 (C_X7_foretellingOf_7 x.l x.g h0 v0 w0 x0 P0 t0 ) 0 9 rfl rfl rfl [0] [1, 2, 3, 4, 5, 6, 7, 8, 9, 10, 11, 12] (by decide) rfl rfl (by decide) (by decide) rfl rfl (Nat.le_of_ble_eq_true rfl) (by decide) dX7_weighForetold_2 (fun v w hp => ?_)
  obtain ⟨rfl, rfl⟩ := hp
  refine j_norm (lv' := [(0, .ref h0), (1, .int (iI 7))]) (st' := [.ref w0]) (ws' := [(h0, oX7 v0 w0 x0 P0 t0), (v0, oX10 hv n b w), (hv, aI x.g 400 v), (w0, oX1 wc oo os), (wc, aI x.g 4 oc), (P0, oX6 hO hU hK hX n1 o1 f1), (hO, aL x.g 240 On), (hU, aI x.g 16 Un), (hK, aI x.g 16 K0), (hX, aI x.g 16 X0), (t0, oX8 tk tx kd ws bi p0), (tk, aI x.g 16 fk0), (tx, aI x.g 16 fx0)]) [0, 1] [12, 0, 1, 2, 3, 4, 5, 6, 7, 8, 9, 10, 11] rfl rfl (by decide) rfl ?_
  refine j_astore_n (lv' := [(2, .ref w0), (0, .ref h0), (1, .int (iI 7))]) jb dX7_weighForetold_5 rfl (by decide) rfl ?_
  refine j_iload_n jb dX7_weighForetold_6 2 rfl ?_
  refine j_bipush jb dX7_weighForetold_7 (by decide) ?_
  refine j_icmp_ne (tgt := 23) jb dX7_weighForetold_9 (by decide) (by decide) (by decide) (fun h => absurd h (by decide)) (fun _ => ?_)
  refine j_aload_n jb dX7_weighForetold_12 0 rfl ?_
  refine j_get jb f_X7_89 dX7_weighForetold_13 3 rfl rfl ?_
  refine j_if_ne (tgt := 23) jb dX7_weighForetold_16 (by decide) (by omega) (fun c_16 => ?_) (fun c_16 => ?_)
  · skip
    refine j_iconst jb dX7_weighForetold_23 ?_
    refine j_istore_n (lv' := [(3, .int (iI 0)), (2, .ref w0), (0, .ref h0), (1, .int (iI 7))]) jb dX7_weighForetold_24 rfl (by decide) rfl ?_
    refine j_iload_n jb dX7_weighForetold_25 0 rfl ?_
    refine j_if_ne (tgt := 58) jb dX7_weighForetold_26 (by decide) (by decide) (fun h => absurd h (by decide)) (fun _ => ?_)
    refine j_aload_n jb dX7_weighForetold_29 1 rfl ?_
    refine j_get jb f_X7_89 dX7_weighForetold_30 3 rfl rfl ?_
    refine j_aload_n jb dX7_weighForetold_33 2 rfl ?_
    refine j_get jb f_X7_12 dX7_weighForetold_34 0 rfl rfl ?_
    refine j_get jb f_X7_79 dX7_weighForetold_37 1 rfl rfl ?_
    refine j_icmp_gt (tgt := 58) jb dX7_weighForetold_40 (by decide) (by omega) (by omega) (fun c_40 => ?_) (fun c_40 => ?_)
    · skip
      refine j_iconst jb dX7_weighForetold_58 ?_
      refine j_norm (lv' := []) (st' := [.int (iI (-1))]) (ws' := [(h0, oX7 v0 w0 x0 P0 t0), (v0, oX10 hv n b w), (hv, aI x.g 400 v), (w0, oX1 wc oo os), (wc, aI x.g 4 oc), (P0, oX6 hO hU hK hX n1 o1 f1), (hO, aL x.g 240 On), (hU, aI x.g 16 Un), (hK, aI x.g 16 K0), (hX, aI x.g 16 X0), (t0, oX8 tk tx kd ws bi p0), (tk, aI x.g 16 fk0), (tx, aI x.g 16 fx0)]) [] [0, 1, 2, 3, 4, 5, 6, 7, 8, 9, 10, 11, 12] rfl rfl (by decide) rfl ?_
      exact j_iret jb jr dX7_weighForetold_59 ⟨_, _, _, _, _, _, _, _, _, _, _, rfl, rfl, (by first | exact ⟨(price7_0 (by omega)).symm, fun h => absurd rfl h, by decide, by decide⟩ | exact ⟨(price7_no (by omega) (fun h => absurd h.1 (by omega))).symm, fun h => absurd rfl h, by decide, by decide⟩ | exact ⟨(price7_no (by omega) (fun h => (h52.2.resolve_left (fun q => by have := q.1; omega)).2 h.2)).symm, fun h => absurd rfl h, by decide, by decide⟩)⟩
    · skip
      refine j_aload_n jb dX7_weighForetold_43 2 rfl ?_
      refine j_get jb f_X7_28 dX7_weighForetold_44 0 rfl rfl ?_
      refine j_aload_n jb dX7_weighForetold_47 2 rfl ?_
      refine j_get jb f_X7_12 dX7_weighForetold_48 0 rfl rfl ?_
      refine j_aload_n jb dX7_weighForetold_51 1 rfl ?_
      refine j_callV (wr := [(h0, oX7 v0 w0 x0 P0 t0), (hK, aI x.g 16 K0), (hX, aI x.g 16 X0), (t0, oX8 tk tx kd ws bi p0), (tk, aI x.g 16 fk0), (tx, aI x.g 16 fx0)]) jb k_X6_gather i_X6_gather s_X6_gather l_X7_92 (C_X6_gather x.l x.g P0 hO hU hK hX v0 hv w0 wc n1 o1 f1 n b w oo os On Un v oc (by omega) (by omega) (hos (by omega)) hcf hv9) 5 8 rfl rfl rfl [5, 6, 7, 1, 2, 3, 4] [0, 8, 9, 10, 11, 12] (by decide) rfl rfl (by decide) (by decide) rfl rfl (Nat.le_of_ble_eq_true rfl) (by decide) dX7_weighForetold_52 (fun v w hp => ?_)
      obtain ⟨rg, fin, O3, U3, rfl, rfl, h52⟩ := hp
      refine j_norm (lv' := [(3, .int (iI 0)), (2, .ref w0), (0, .ref h0), (1, .int (iI 7))]) (st' := [.int (iI rg)]) (ws' := [(h0, oX7 v0 w0 x0 P0 t0), (v0, oX10 hv n b w), (hv, aI x.g 400 v), (w0, oX1 wc oo os), (wc, aI x.g 4 oc), (P0, oX6 hO hU hK hX n oo fin), (hO, aL x.g 240 O3), (hU, aI x.g 16 U3), (hK, aI x.g 16 K0), (hX, aI x.g 16 X0), (t0, oX8 tk tx kd ws bi p0), (tk, aI x.g 16 fk0), (tx, aI x.g 16 fx0)]) [0, 1, 2, 3] [0, 9, 10, 11, 12, 6, 7, 8, 1, 2, 3, 4, 5] rfl rfl (by decide) rfl ?_
      refine j_if_ne (tgt := 60) jb dX7_weighForetold_55 (by decide) (by rcases h52.2 with h | h <;> omega) (fun c_55 => ?_) (fun c_55 => ?_)
      · skip
        have hall : allU (rests v oc oo os) oo n := (h52.2.resolve_right (fun h => c_55 h.1)).2.1
        have hgt := (h52.2.resolve_right (fun h => c_55 h.1)).2.2
        have hob := mul_in (A := 4) (C := 17) (a := oo) (b := b) (by omega) (by omega) (by decide)
        have hob0 := Int.mul_nonneg hoo.1 hb.1
        refine j_bipush jb dX7_weighForetold_60 (by decide) ?_
        refine j_aload_n jb dX7_weighForetold_62 1 rfl ?_
        refine j_get jb f_X7_89 dX7_weighForetold_63 3 rfl rfl ?_
        refine j_aload_n jb dX7_weighForetold_66 2 rfl ?_
        refine j_get jb f_X7_12 dX7_weighForetold_67 0 rfl rfl ?_
        refine j_get jb f_X7_76 dX7_weighForetold_70 1 rfl rfl ?_
        refine j_imul jb dX7_weighForetold_73 ?_
        refine j_iadd jb dX7_weighForetold_74 ?_
        refine j_istore (lv' := [(4, .int (iI (7 + (oo * b)))), (3, .int (iI 0)), (2, .ref w0), (0, .ref h0), (1, .int (iI 7))]) jb dX7_weighForetold_75 (by decide) rfl ?_
        refine j_iload_n jb dX7_weighForetold_77 4 rfl ?_
        refine j_bipush jb dX7_weighForetold_78 (by decide) ?_
        refine j_icmp_ne (tgt := 98) jb dX7_weighForetold_80 (by decide) (by decide) (by decide) (fun h => absurd h (by decide)) (fun _ => ?_)
        refine j_iload jb dX7_weighForetold_83 0 rfl ?_
        refine j_bipush jb dX7_weighForetold_85 (by decide) ?_
        refine j_aload_n jb dX7_weighForetold_87 2 rfl ?_
        refine j_get jb f_X7_89 dX7_weighForetold_88 3 rfl rfl ?_
        refine j_bipush jb dX7_weighForetold_91 (by decide) ?_
        refine j_imul jb dX7_weighForetold_93 ?_
        refine j_iadd jb dX7_weighForetold_94 ?_
        refine j_iadd jb dX7_weighForetold_95 ?_
        refine j_istore (lv' := [(4, .int (iI ((7 + (oo * b)) + (6 + (oo * 10))))), (3, .int (iI 0)), (2, .ref w0), (0, .ref h0), (1, .int (iI 7))]) jb dX7_weighForetold_96 (by decide) rfl ?_
        refine j_iload jb dX7_weighForetold_98 0 rfl ?_
        refine j_aload_n jb dX7_weighForetold_100 3 rfl ?_
        refine j_get jb f_X7_28 dX7_weighForetold_101 0 rfl rfl ?_
        refine j_aload_n jb dX7_weighForetold_104 3 rfl ?_
        refine j_get jb f_X7_35 dX7_weighForetold_105 0 rfl rfl ?_
        refine j_callV (wr := [(h0, oX7 v0 w0 x0 P0 t0), (v0, oX10 hv n b w), (hv, aI x.g 400 v), (w0, oX1 wc oo os), (wc, aI x.g 4 oc)]) jb k_X6_chooseParts i_X6_chooseParts s_X6_chooseParts l_X7_96 (C_X6_chooseParts x.l x.g P0 hO hU hK hX t0 tk tx n oo fin kd ws bi p0 O3 U3 K0 X0 fk0 fx0 (rests v oc oo os) (by omega) (by omega) (fun i h1 h2 => ⟨fld_nn _, hall i h1 h2⟩) h52.1 hgt) 5 8 rfl rfl rfl [5, 6, 7, 8, 9, 10, 11, 12] [0, 1, 2, 3, 4] (by decide) rfl rfl (by decide) (by decide) rfl rfl (Nat.le_of_ble_eq_true rfl) (by decide) dX7_weighForetold_108 (fun v w hp => ?_)
        obtain ⟨rb, fp, O4, U4, K4, X4, fk4, fx4, rfl, rfl, h108⟩ := hp
        refine j_norm (lv' := [(4, .int (iI ((7 + (oo * b)) + (6 + (oo * 10))))), (3, .int (iI 0)), (2, .ref w0), (0, .ref h0), (1, .int (iI 7))]) (st' := [.int (iI rb), .int (iI ((7 + (oo * b)) + (6 + (oo * 10))))]) (ws' := [(h0, oX7 v0 w0 x0 P0 t0), (v0, oX10 hv n b w), (hv, aI x.g 400 v), (w0, oX1 wc oo os), (wc, aI x.g 4 oc), (P0, oX6 hO hU hK hX n oo fin), (hO, aL x.g 240 O4), (hU, aI x.g 16 U4), (hK, aI x.g 16 K4), (hX, aI x.g 16 X4), (t0, oX8 tk tx kd ws bi fp), (tk, aI x.g 16 fk4), (tx, aI x.g 16 fx4)]) [0, 1, 2, 3, 4] [0, 1, 2, 3, 4, 5, 6, 7, 8, 9, 10, 11, 12] rfl rfl (by decide) rfl ?_
        refine j_iadd jb dX7_weighForetold_111 ?_
        refine j_norm (lv' := []) (st' := [.int (iI (((7 + (oo * b)) + (6 + (oo * 10))) + rb))]) (ws' := [(h0, oX7 v0 w0 x0 P0 t0), (v0, oX10 hv n b w), (hv, aI x.g 400 v), (w0, oX1 wc oo os), (wc, aI x.g 4 oc), (P0, oX6 hO hU hK hX n oo fin), (hO, aL x.g 240 O4), (hU, aI x.g 16 U4), (hK, aI x.g 16 K4), (hX, aI x.g 16 X4), (t0, oX8 tk tx kd ws bi fp), (tk, aI x.g 16 fk4), (tx, aI x.g 16 fx4)]) [] [0, 1, 2, 3, 4, 5, 6, 7, 8, 9, 10, 11, 12] rfl rfl (by decide) rfl ?_
        exact j_iret jb jr dX7_weighForetold_112 ⟨_, _, _, _, _, _, _, _, _, _, _, rfl, rfl, (price7_ok (by omega) (by omega) hall h52.1 h108 (by omega))⟩
      · skip
        refine j_iconst jb dX7_weighForetold_58 ?_
        refine j_norm (lv' := []) (st' := [.int (iI (-1))]) (ws' := [(h0, oX7 v0 w0 x0 P0 t0), (v0, oX10 hv n b w), (hv, aI x.g 400 v), (w0, oX1 wc oo os), (wc, aI x.g 4 oc), (P0, oX6 hO hU hK hX n oo fin), (hO, aL x.g 240 O3), (hU, aI x.g 16 U3), (hK, aI x.g 16 K0), (hX, aI x.g 16 X0), (t0, oX8 tk tx kd ws bi p0), (tk, aI x.g 16 fk0), (tx, aI x.g 16 fx0)]) [] [0, 1, 2, 3, 4, 5, 6, 7, 8, 9, 10, 11, 12] rfl rfl (by decide) rfl ?_
        exact j_iret jb jr dX7_weighForetold_59 ⟨_, _, _, _, _, _, _, _, _, _, _, rfl, rfl, (by first | exact ⟨(price7_0 (by omega)).symm, fun h => absurd rfl h, by decide, by decide⟩ | exact ⟨(price7_no (by omega) (fun h => absurd h.1 (by omega))).symm, fun h => absurd rfl h, by decide, by decide⟩ | exact ⟨(price7_no (by omega) (fun h => (h52.2.resolve_left (fun q => by have := q.1; omega)).2 h.2)).symm, fun h => absurd rfl h, by decide, by decide⟩)⟩
  · skip
    refine j_iconst jb dX7_weighForetold_19 ?_
    refine j_goto (tgt := 24) jb dX7_weighForetold_20 (by decide) ?_
    refine j_istore_n (lv' := [(3, .int (iI 1)), (2, .ref w0), (0, .ref h0), (1, .int (iI 7))]) jb dX7_weighForetold_24 rfl (by decide) rfl ?_
    refine j_iload_n jb dX7_weighForetold_25 0 rfl ?_
    refine j_if_ne (tgt := 58) jb dX7_weighForetold_26 (by decide) (by decide) (fun _ => ?_) (fun h => absurd h (by decide))
    refine j_iconst jb dX7_weighForetold_58 ?_
    refine j_norm (lv' := []) (st' := [.int (iI (-1))]) (ws' := [(h0, oX7 v0 w0 x0 P0 t0), (v0, oX10 hv n b w), (hv, aI x.g 400 v), (w0, oX1 wc oo os), (wc, aI x.g 4 oc), (P0, oX6 hO hU hK hX n1 o1 f1), (hO, aL x.g 240 On), (hU, aI x.g 16 Un), (hK, aI x.g 16 K0), (hX, aI x.g 16 X0), (t0, oX8 tk tx kd ws bi p0), (tk, aI x.g 16 fk0), (tx, aI x.g 16 fx0)]) [] [0, 1, 2, 3, 4, 5, 6, 7, 8, 9, 10, 11, 12] rfl rfl (by decide) rfl ?_
    exact j_iret jb jr dX7_weighForetold_59 ⟨_, _, _, _, _, _, _, _, _, _, _, rfl, rfl, (by first | exact ⟨(price7_0 (by omega)).symm, fun h => absurd rfl h, by decide, by decide⟩ | exact ⟨(price7_no (by omega) (fun h => absurd h.1 (by omega))).symm, fun h => absurd rfl h, by decide, by decide⟩ | exact ⟨(price7_no (by omega) (fun h => (h52.2.resolve_left (fun q => by have := q.1; omega)).2 h.2)).symm, fun h => absurd rfl h, by decide, by decide⟩)⟩

set_option maxHeartbeats 4000000 in
set_option maxRecDepth 100000 in
theorem C_X7_weighForetold_f (l : Launch) (g : GG) (h0 v0 w0 x0 P0 t0 hv wc xc hO hU hK hX tk tx : Nat) (kind : Int) (n b w oo os fo fs n1 o1 f1 kd ws bi p0 : Int) (v oc fc On Un K0 X0 fk0 fx0 : Int → Int) (hn : 1 ≤ n ∧ n ≤ 400) (hb : 0 ≤ b ∧ b ≤ 17) (hv9 : vOk v n) (hk : 2 ≤ kind ∧ kind ≤ 6) : Ctr l g yX7_weighForetold cX7_weighForetold 5 (some .int) 3 160 0 0 [.ref h0, .int (iI kind)] [(h0, oX7 v0 w0 x0 P0 t0), (v0, oX10 hv n b w), (hv, aI g 400 v), (x0, oX1 xc fo fs), (xc, aI g 4 fc), (P0, oX6 hO hU hK hX n1 o1 f1), (hO, aL g 240 On), (hU, aI g 16 Un), (hK, aI g 16 K0), (hX, aI g 16 X0), (t0, oX8 tk tx kd ws bi p0), (tk, aI g 16 fk0), (tx, aI g 16 fx0)] (fun vv ww => ∃ (r fp n2 o2 f2 : Int) (c2 On2 Un2 K2 X2 fk2 fx2 : Int → Int), vv = some (.int (iI r)) ∧ ww = [(h0, oX7 v0 w0 x0 P0 t0), (v0, oX10 hv n b w), (hv, aI g 400 v), (x0, oX1 xc (kind - 2) 0), (xc, aI g 4 c2), (P0, oX6 hO hU hK hX n2 o2 f2), (hO, aL g 240 On2), (hU, aI g 16 Un2), (hK, aI g 16 K2), (hX, aI g 16 X2), (t0, oX8 tk tx kd ws bi fp), (tk, aI g 16 fk2), (tx, aI g 16 fx2)] ∧ r = price v n b oo os oc kind ∧ (r ≠ -1 → rowTold v n oo os oc kind fp fk2 fx2) ∧ -1 ≤ r ∧ r ≤ 300000) := by
  refine Ctr.of [(0, .ref h0), (1, .int (iI kind))] (by decide) (Nat.le_of_ble_eq_true rfl) rfl ?_
  intro x hxl hxg jb jr hin
  subst hxl; subst hxg
  refine j_aload_n jb dX7_weighForetold_0 0 rfl ?_
  refine j_iload_n jb dX7_weighForetold_1 1 rfl ?_
  refine j_callV (wr := [(v0, oX10 hv n b w), (hv, aI x.g 400 v), (P0, oX6 hO hU hK hX n1 o1 f1), (hO, aL x.g 240 On), (hU, aI x.g 16 Un), (hK, aI x.g 16 K0), (hX, aI x.g 16 X0), (t0, oX8 tk tx kd ws bi p0), (tk, aI x.g 16 fk0), (tx, aI x.g 16 fx0)]) jb k_X7_foretellingOf i_X7_foretellingOf s_X7_foretellingOf l_X7_85 (C_X7_foretellingOf_f x.l x.g h0 v0 w0 x0 P0 t0 xc kind fo fs fc (by omega)) 0 9 rfl rfl rfl [0, 3, 4] [1, 2, 5, 6, 7, 8, 9, 10, 11, 12] (by decide) rfl rfl (by decide) (by decide) rfl rfl (Nat.le_of_ble_eq_true rfl) (by decide) dX7_weighForetold_2 (fun v w hp => ?_)
  obtain ⟨c2, rfl, rfl, h2⟩ := hp
  refine j_norm (lv' := [(0, .ref h0), (1, .int (iI kind))]) (st' := [.ref x0]) (ws' := [(h0, oX7 v0 w0 x0 P0 t0), (v0, oX10 hv n b w), (hv, aI x.g 400 v), (x0, oX1 xc (kind - 2) 0), (xc, aI x.g 4 c2), (P0, oX6 hO hU hK hX n1 o1 f1), (hO, aL x.g 240 On), (hU, aI x.g 16 Un), (hK, aI x.g 16 K0), (hX, aI x.g 16 X0), (t0, oX8 tk tx kd ws bi p0), (tk, aI x.g 16 fk0), (tx, aI x.g 16 fx0)]) [0, 1] [10, 0, 1, 11, 12, 2, 3, 4, 5, 6, 7, 8, 9] rfl rfl (by decide) rfl ?_
  refine j_astore_n (lv' := [(2, .ref x0), (0, .ref h0), (1, .int (iI kind))]) jb dX7_weighForetold_5 rfl (by decide) rfl ?_
  refine j_iload_n jb dX7_weighForetold_6 2 rfl ?_
  refine j_bipush jb dX7_weighForetold_7 (by decide) ?_
  refine j_icmp_ne (tgt := 23) jb dX7_weighForetold_9 (by decide) (by omega) (by omega) (fun c_9 => ?_) (fun c_9 => ?_)
  · skip
    refine j_iconst jb dX7_weighForetold_23 ?_
    refine j_istore_n (lv' := [(3, .int (iI 0)), (2, .ref x0), (0, .ref h0), (1, .int (iI kind))]) jb dX7_weighForetold_24 rfl (by decide) rfl ?_
    refine j_iload_n jb dX7_weighForetold_25 0 rfl ?_
    refine j_if_ne (tgt := 58) jb dX7_weighForetold_26 (by decide) (by decide) (fun h => absurd h (by decide)) (fun _ => ?_)
    refine j_aload_n jb dX7_weighForetold_29 1 rfl ?_
    refine j_get jb f_X7_89 dX7_weighForetold_30 3 rfl rfl ?_
    refine j_aload_n jb dX7_weighForetold_33 2 rfl ?_
    refine j_get jb f_X7_12 dX7_weighForetold_34 0 rfl rfl ?_
    refine j_get jb f_X7_79 dX7_weighForetold_37 1 rfl rfl ?_
    refine j_icmp_gt (tgt := 58) jb dX7_weighForetold_40 (by decide) (by omega) (by omega) (fun c_40 => ?_) (fun c_40 => ?_)
    · skip
      refine j_iconst jb dX7_weighForetold_58 ?_
      refine j_norm (lv' := []) (st' := [.int (iI (-1))]) (ws' := [(h0, oX7 v0 w0 x0 P0 t0), (v0, oX10 hv n b w), (hv, aI x.g 400 v), (x0, oX1 xc (kind - 2) 0), (xc, aI x.g 4 c2), (P0, oX6 hO hU hK hX n1 o1 f1), (hO, aL x.g 240 On), (hU, aI x.g 16 Un), (hK, aI x.g 16 K0), (hX, aI x.g 16 X0), (t0, oX8 tk tx kd ws bi p0), (tk, aI x.g 16 fk0), (tx, aI x.g 16 fx0)]) [] [0, 1, 2, 3, 4, 5, 6, 7, 8, 9, 10, 11, 12] rfl rfl (by decide) rfl ?_
      exact j_iret jb jr dX7_weighForetold_59 ⟨_, _, _, _, _, _, _, _, _, _, _, _, rfl, rfl, (by first | exact ⟨(pricef_no hk (fun h => absurd h.1 (by omega))).symm, fun h => absurd rfl h, by decide, by decide⟩ | exact ⟨(pricef_no hk (fun h => by rw [hcg] at h52; exact (h52.2.resolve_left (fun q => by have := q.1; omega)).2 h.2)).symm, fun h => absurd rfl h, by decide, by decide⟩)⟩
    · skip
      have hcg : rests v c2 (kind - 2) 0 = rests v (cFix (kind - 2)) (kind - 2) 0 := rests_congr (fun j h1 h3 => h2 j h1 (by omega))
      refine j_aload_n jb dX7_weighForetold_43 2 rfl ?_
      refine j_get jb f_X7_28 dX7_weighForetold_44 0 rfl rfl ?_
      refine j_aload_n jb dX7_weighForetold_47 2 rfl ?_
      refine j_get jb f_X7_12 dX7_weighForetold_48 0 rfl rfl ?_
      refine j_aload_n jb dX7_weighForetold_51 1 rfl ?_
      refine j_callV (wr := [(h0, oX7 v0 w0 x0 P0 t0), (hK, aI x.g 16 K0), (hX, aI x.g 16 X0), (t0, oX8 tk tx kd ws bi p0), (tk, aI x.g 16 fk0), (tx, aI x.g 16 fx0)]) jb k_X6_gather i_X6_gather s_X6_gather l_X7_92 (C_X6_gather x.l x.g P0 hO hU hK hX v0 hv x0 xc n1 o1 f1 n b w (kind - 2) 0 On Un v c2 (by omega) (by omega) (by decide) (cFix_ok (by omega) h2) hv9) 5 8 rfl rfl rfl [5, 6, 7, 1, 2, 3, 4] [0, 8, 9, 10, 11, 12] (by decide) rfl rfl (by decide) (by decide) rfl rfl (Nat.le_of_ble_eq_true rfl) (by decide) dX7_weighForetold_52 (fun v w hp => ?_)
      obtain ⟨rg, fin, O3, U3, rfl, rfl, h52⟩ := hp
      refine j_norm (lv' := [(3, .int (iI 0)), (2, .ref x0), (0, .ref h0), (1, .int (iI kind))]) (st' := [.int (iI rg)]) (ws' := [(h0, oX7 v0 w0 x0 P0 t0), (v0, oX10 hv n b w), (hv, aI x.g 400 v), (x0, oX1 xc (kind - 2) 0), (xc, aI x.g 4 c2), (P0, oX6 hO hU hK hX n (kind - 2) fin), (hO, aL x.g 240 O3), (hU, aI x.g 16 U3), (hK, aI x.g 16 K0), (hX, aI x.g 16 X0), (t0, oX8 tk tx kd ws bi p0), (tk, aI x.g 16 fk0), (tx, aI x.g 16 fx0)]) [0, 1, 2, 3] [0, 9, 10, 11, 12, 6, 7, 8, 1, 2, 3, 4, 5] rfl rfl (by decide) rfl ?_
      refine j_if_ne (tgt := 60) jb dX7_weighForetold_55 (by decide) (by rcases h52.2 with h | h <;> omega) (fun c_55 => ?_) (fun c_55 => ?_)
      · skip
        rw [hcg] at h52
        have hall : allU (rests v (cFix (kind - 2)) (kind - 2) 0) (kind - 2) n := (h52.2.resolve_right (fun h => c_55 h.1)).2.1
        have hgt := (h52.2.resolve_right (fun h => c_55 h.1)).2.2
        have hob := mul_in (A := 4) (C := 17) (a := kind - 2) (b := b) (by omega) (by omega) (by decide)
        have hob0 := Int.mul_nonneg (show 0 ≤ kind - 2 by omega) hb.1
        refine j_bipush jb dX7_weighForetold_60 (by decide) ?_
        refine j_aload_n jb dX7_weighForetold_62 1 rfl ?_
        refine j_get jb f_X7_89 dX7_weighForetold_63 3 rfl rfl ?_
        refine j_aload_n jb dX7_weighForetold_66 2 rfl ?_
        refine j_get jb f_X7_12 dX7_weighForetold_67 0 rfl rfl ?_
        refine j_get jb f_X7_76 dX7_weighForetold_70 1 rfl rfl ?_
        refine j_imul jb dX7_weighForetold_73 ?_
        refine j_iadd jb dX7_weighForetold_74 ?_
        refine j_istore (lv' := [(4, .int (iI (7 + ((kind - 2) * b)))), (3, .int (iI 0)), (2, .ref x0), (0, .ref h0), (1, .int (iI kind))]) jb dX7_weighForetold_75 (by decide) rfl ?_
        refine j_iload_n jb dX7_weighForetold_77 4 rfl ?_
        refine j_bipush jb dX7_weighForetold_78 (by decide) ?_
        refine j_icmp_ne (tgt := 98) jb dX7_weighForetold_80 (by decide) (by omega) (by omega) (fun c_80 => ?_) (fun c_80 => ?_)
        · skip
          refine j_iload jb dX7_weighForetold_98 0 rfl ?_
          refine j_aload_n jb dX7_weighForetold_100 3 rfl ?_
          refine j_get jb f_X7_28 dX7_weighForetold_101 0 rfl rfl ?_
          refine j_aload_n jb dX7_weighForetold_104 3 rfl ?_
          refine j_get jb f_X7_35 dX7_weighForetold_105 0 rfl rfl ?_
          refine j_callV (wr := [(h0, oX7 v0 w0 x0 P0 t0), (v0, oX10 hv n b w), (hv, aI x.g 400 v), (x0, oX1 xc (kind - 2) 0), (xc, aI x.g 4 c2)]) jb k_X6_chooseParts i_X6_chooseParts s_X6_chooseParts l_X7_96 (C_X6_chooseParts x.l x.g P0 hO hU hK hX t0 tk tx n (kind - 2) fin kd ws bi p0 O3 U3 K0 X0 fk0 fx0 (rests v (cFix (kind - 2)) (kind - 2) 0) (by omega) (by omega) (fun i h1 h2 => ⟨fld_nn _, hall i h1 h2⟩) h52.1 hgt) 5 8 rfl rfl rfl [5, 6, 7, 8, 9, 10, 11, 12] [0, 1, 2, 3, 4] (by decide) rfl rfl (by decide) (by decide) rfl rfl (Nat.le_of_ble_eq_true rfl) (by decide) dX7_weighForetold_108 (fun v w hp => ?_)
          obtain ⟨rb, fp, O4, U4, K4, X4, fk4, fx4, rfl, rfl, h108⟩ := hp
          refine j_norm (lv' := [(4, .int (iI (7 + ((kind - 2) * b)))), (3, .int (iI 0)), (2, .ref x0), (0, .ref h0), (1, .int (iI kind))]) (st' := [.int (iI rb), .int (iI (7 + ((kind - 2) * b)))]) (ws' := [(h0, oX7 v0 w0 x0 P0 t0), (v0, oX10 hv n b w), (hv, aI x.g 400 v), (x0, oX1 xc (kind - 2) 0), (xc, aI x.g 4 c2), (P0, oX6 hO hU hK hX n (kind - 2) fin), (hO, aL x.g 240 O4), (hU, aI x.g 16 U4), (hK, aI x.g 16 K4), (hX, aI x.g 16 X4), (t0, oX8 tk tx kd ws bi fp), (tk, aI x.g 16 fk4), (tx, aI x.g 16 fx4)]) [0, 1, 2, 3, 4] [0, 1, 2, 3, 4, 5, 6, 7, 8, 9, 10, 11, 12] rfl rfl (by decide) rfl ?_
          refine j_iadd jb dX7_weighForetold_111 ?_
          refine j_norm (lv' := []) (st' := [.int (iI ((7 + ((kind - 2) * b)) + rb))]) (ws' := [(h0, oX7 v0 w0 x0 P0 t0), (v0, oX10 hv n b w), (hv, aI x.g 400 v), (x0, oX1 xc (kind - 2) 0), (xc, aI x.g 4 c2), (P0, oX6 hO hU hK hX n (kind - 2) fin), (hO, aL x.g 240 O4), (hU, aI x.g 16 U4), (hK, aI x.g 16 K4), (hX, aI x.g 16 X4), (t0, oX8 tk tx kd ws bi fp), (tk, aI x.g 16 fk4), (tx, aI x.g 16 fx4)]) [] [0, 1, 2, 3, 4, 5, 6, 7, 8, 9, 10, 11, 12] rfl rfl (by decide) rfl ?_
          exact j_iret jb jr dX7_weighForetold_112 ⟨_, _, _, _, _, _, _, _, _, _, _, _, rfl, rfl, (pricef_ok hk (by omega) hall h52.1 h108 (by omega))⟩
        · skip
          exact absurd c_80 (by omega)
      · skip
        refine j_iconst jb dX7_weighForetold_58 ?_
        refine j_norm (lv' := []) (st' := [.int (iI (-1))]) (ws' := [(h0, oX7 v0 w0 x0 P0 t0), (v0, oX10 hv n b w), (hv, aI x.g 400 v), (x0, oX1 xc (kind - 2) 0), (xc, aI x.g 4 c2), (P0, oX6 hO hU hK hX n (kind - 2) fin), (hO, aL x.g 240 O3), (hU, aI x.g 16 U3), (hK, aI x.g 16 K0), (hX, aI x.g 16 X0), (t0, oX8 tk tx kd ws bi p0), (tk, aI x.g 16 fk0), (tx, aI x.g 16 fx0)]) [] [0, 1, 2, 3, 4, 5, 6, 7, 8, 9, 10, 11, 12] rfl rfl (by decide) rfl ?_
        exact j_iret jb jr dX7_weighForetold_59 ⟨_, _, _, _, _, _, _, _, _, _, _, _, rfl, rfl, (by first | exact ⟨(pricef_no hk (fun h => absurd h.1 (by omega))).symm, fun h => absurd rfl h, by decide, by decide⟩ | exact ⟨(pricef_no hk (fun h => by rw [hcg] at h52; exact (h52.2.resolve_left (fun q => by have := q.1; omega)).2 h.2)).symm, fun h => absurd rfl h, by decide, by decide⟩)⟩
  · skip
    exact absurd c_9 (by omega)

set_option maxHeartbeats 4000000 in
set_option maxRecDepth 100000 in
theorem C_X7_weigh (l : Launch) (g : GG) (h0 v0 w0 x0 P0 t0 hv wc xc hO hU hK hX tk tx : Nat) (kind : Int) (n b w oo os fo fs n1 o1 f1 kd ws bi p0 : Int) (v oc fc On Un K0 X0 fk0 fx0 : Int → Int) (hn : 1 ≤ n ∧ n ≤ 400) (hb : 0 ≤ b ∧ b ≤ 17) (hv9 : vOk v n) (hk : 0 ≤ kind ∧ kind ≤ 7) (hoo : 0 ≤ oo ∧ oo ≤ 4) (hos : 0 < oo → 0 ≤ os ∧ os ≤ 15) (hcf : cfOk oc) : Ctr l g yX7_weigh cX7_weigh 2 (some .int) 4 190 0 0 [.ref h0, .int (iI kind)] [(h0, oX7 v0 w0 x0 P0 t0), (v0, oX10 hv n b w), (hv, aI g 400 v), (w0, oX1 wc oo os), (wc, aI g 4 oc), (x0, oX1 xc fo fs), (xc, aI g 4 fc), (P0, oX6 hO hU hK hX n1 o1 f1), (hO, aL g 240 On), (hU, aI g 16 Un), (hK, aI g 16 K0), (hX, aI g 16 X0), (t0, oX8 tk tx kd ws bi p0), (tk, aI g 16 fk0), (tx, aI g 16 fx0)] (fun vv ww => ∃ (r fp n2 o2 f2 fo2 fs2 : Int) (c2 On2 Un2 K2 X2 fk2 fx2 : Int → Int), vv = some (.int (iI r)) ∧ ww = [(h0, oX7 v0 w0 x0 P0 t0), (v0, oX10 hv n b w), (hv, aI g 400 v), (w0, oX1 wc oo os), (wc, aI g 4 oc), (x0, oX1 xc fo2 fs2), (xc, aI g 4 c2), (P0, oX6 hO hU hK hX n2 o2 f2), (hO, aL g 240 On2), (hU, aI g 16 Un2), (hK, aI g 16 K2), (hX, aI g 16 X2), (t0, oX8 tk tx kind w r fp), (tk, aI g 16 fk2), (tx, aI g 16 fx2)] ∧ r = price v n b oo os oc kind ∧ (r ≠ -1 → rowTold v n oo os oc kind fp fk2 fx2) ∧ -1 ≤ r ∧ r ≤ 300000) := by
  refine Ctr.of [(0, .ref h0), (1, .int (iI kind))] (by decide) (Nat.le_of_ble_eq_true rfl) rfl ?_
  intro x hxl hxg jb jr hin
  subst hxl; subst hxg
  have hnb := mul_in (A := 400) (C := 17) (a := n) (b := b) (by omega) (by omega) (by decide)
  have hnb0 := Int.mul_nonneg (show 0 ≤ n by omega) hb.1
  refine j_aload_n jb dX7_weigh_0 0 rfl ?_
  refine j_get jb f_X7_35 dX7_weigh_1 0 rfl rfl ?_
  refine j_iload_n jb dX7_weigh_4 1 rfl ?_
  refine j_put (ws' := [(h0, oX7 v0 w0 x0 P0 t0), (v0, oX10 hv n b w), (hv, aI x.g 400 v), (w0, oX1 wc oo os), (wc, aI x.g 4 oc), (x0, oX1 xc fo fs), (xc, aI x.g 4 fc), (P0, oX6 hO hU hK hX n1 o1 f1), (hO, aL x.g 240 On), (hU, aI x.g 16 Un), (hK, aI x.g 16 K0), (hX, aI x.g 16 X0), (t0, oX8 tk tx kind ws bi p0), (tk, aI x.g 16 fk0), (tx, aI x.g 16 fx0)]) jb f_X7_62 w_X8_2 rfl dX7_weigh_5 12 rfl rfl rfl (Nat.le_of_ble_eq_true rfl) rfl ?_
  refine j_aload_n jb dX7_weigh_8 0 rfl ?_
  refine j_get jb f_X7_35 dX7_weigh_9 0 rfl rfl ?_
  refine j_aload_n jb dX7_weigh_12 0 rfl ?_
  refine j_get jb f_X7_12 dX7_weigh_13 0 rfl rfl ?_
  refine j_get jb f_X7_65 dX7_weigh_16 1 rfl rfl ?_
  refine j_put (ws' := [(h0, oX7 v0 w0 x0 P0 t0), (v0, oX10 hv n b w), (hv, aI x.g 400 v), (w0, oX1 wc oo os), (wc, aI x.g 4 oc), (x0, oX1 xc fo fs), (xc, aI x.g 4 fc), (P0, oX6 hO hU hK hX n1 o1 f1), (hO, aL x.g 240 On), (hU, aI x.g 16 Un), (hK, aI x.g 16 K0), (hX, aI x.g 16 X0), (t0, oX8 tk tx kind w bi p0), (tk, aI x.g 16 fk0), (tx, aI x.g 16 fx0)]) jb f_X7_68 w_X8_3 rfl dX7_weigh_19 12 rfl rfl rfl (Nat.le_of_ble_eq_true rfl) rfl ?_
  refine j_aload_n jb dX7_weigh_22 0 rfl ?_
  refine j_get jb f_X7_35 dX7_weigh_23 0 rfl rfl ?_
  refine j_iconst jb dX7_weigh_26 ?_
  refine j_put (ws' := [(h0, oX7 v0 w0 x0 P0 t0), (v0, oX10 hv n b w), (hv, aI x.g 400 v), (w0, oX1 wc oo os), (wc, aI x.g 4 oc), (x0, oX1 xc fo fs), (xc, aI x.g 4 fc), (P0, oX6 hO hU hK hX n1 o1 f1), (hO, aL x.g 240 On), (hU, aI x.g 16 Un), (hK, aI x.g 16 K0), (hX, aI x.g 16 X0), (t0, oX8 tk tx kind w bi (-1)), (tk, aI x.g 16 fk0), (tx, aI x.g 16 fx0)]) jb f_X7_69 w_X8_5 rfl dX7_weigh_27 12 rfl rfl rfl (Nat.le_of_ble_eq_true rfl) rfl ?_
  refine j_iload_n jb dX7_weigh_30 1 rfl ?_
  refine j_if_ne (tgt := 68) jb dX7_weigh_31 (by decide) (by omega) (fun c_31 => ?_) (fun c_31 => ?_)
  · skip
    refine j_iload_n jb dX7_weigh_68 1 rfl ?_
    refine j_iconst jb dX7_weigh_69 ?_
    refine j_icmp_ne (tgt := 101) jb dX7_weigh_70 (by decide) (by omega) (by omega) (fun c_70 => ?_) (fun c_70 => ?_)
    · skip
      rcases (show kind = 7 ∨ (2 ≤ kind ∧ kind ≤ 6) by omega) with e | e
      · skip
        subst e
        refine j_aload_n jb dX7_weigh_101 0 rfl ?_
        refine j_get jb f_X7_35 dX7_weigh_102 0 rfl rfl ?_
        refine j_aload_n jb dX7_weigh_105 0 rfl ?_
        refine j_iload_n jb dX7_weigh_106 1 rfl ?_
        refine j_callV (wr := [(x0, oX1 xc fo fs), (xc, aI x.g 4 fc)]) jb k_X7_weighForetold i_X7_weighForetold s_X7_weighForetold l_X7_82 (C_X7_weighForetold_7 x.l x.g h0 v0 w0 x0 P0 t0 hv wc xc hO hU hK hX tk tx n b w oo os fo fs n1 o1 f1 7 w bi (-1) v oc fc On Un K0 X0 fk0 fx0 hn hb hv9 hoo hos hcf) 0 9 rfl rfl rfl [0, 1, 2, 3, 4, 7, 8, 9, 10, 11, 12, 13, 14] [5, 6] (by decide) rfl rfl (by decide) (by decide) rfl rfl (Nat.le_of_ble_eq_true rfl) (by decide) dX7_weigh_107 (fun v w hp => ?_)
        obtain ⟨r7, fp7, n7, o7, f7, On7, Un7, K7, X7, fk7, fx7, rfl, rfl, h107⟩ := hp
        refine j_norm (lv' := [(0, .ref h0), (1, .int (iI 7))]) (st' := [.int (iI r7), .ref t0]) (ws' := [(h0, oX7 v0 w0 x0 P0 t0), (v0, oX10 hv n b w), (hv, aI x.g 400 v), (w0, oX1 wc oo os), (wc, aI x.g 4 oc), (x0, oX1 xc fo fs), (xc, aI x.g 4 fc), (P0, oX6 hO hU hK hX n7 o7 f7), (hO, aL x.g 240 On7), (hU, aI x.g 16 Un7), (hK, aI x.g 16 K7), (hX, aI x.g 16 X7), (t0, oX8 tk tx 7 w bi fp7), (tk, aI x.g 16 fk7), (tx, aI x.g 16 fx7)]) [0, 1] [2, 3, 4, 5, 6, 0, 1, 7, 8, 9, 10, 11, 12, 13, 14] rfl rfl (by decide) rfl ?_
        refine j_put (ws' := [(h0, oX7 v0 w0 x0 P0 t0), (v0, oX10 hv n b w), (hv, aI x.g 400 v), (w0, oX1 wc oo os), (wc, aI x.g 4 oc), (x0, oX1 xc fo fs), (xc, aI x.g 4 fc), (P0, oX6 hO hU hK hX n7 o7 f7), (hO, aL x.g 240 On7), (hU, aI x.g 16 Un7), (hK, aI x.g 16 K7), (hX, aI x.g 16 X7), (t0, oX8 tk tx 7 w r7 fp7), (tk, aI x.g 16 fk7), (tx, aI x.g 16 fx7)]) jb f_X7_50 w_X8_4 rfl dX7_weigh_110 12 rfl rfl rfl (Nat.le_of_ble_eq_true rfl) rfl ?_
        refine j_aload_n jb dX7_weigh_113 0 rfl ?_
        refine j_get jb f_X7_35 dX7_weigh_114 0 rfl rfl ?_
        refine j_get jb f_X7_50 dX7_weigh_117 12 rfl rfl ?_
        refine j_norm (lv' := []) (st' := [.int (iI r7)]) (ws' := [(h0, oX7 v0 w0 x0 P0 t0), (v0, oX10 hv n b w), (hv, aI x.g 400 v), (w0, oX1 wc oo os), (wc, aI x.g 4 oc), (x0, oX1 xc fo fs), (xc, aI x.g 4 fc), (P0, oX6 hO hU hK hX n7 o7 f7), (hO, aL x.g 240 On7), (hU, aI x.g 16 Un7), (hK, aI x.g 16 K7), (hX, aI x.g 16 X7), (t0, oX8 tk tx 7 w r7 fp7), (tk, aI x.g 16 fk7), (tx, aI x.g 16 fx7)]) [] [0, 1, 2, 3, 4, 5, 6, 7, 8, 9, 10, 11, 12, 13, 14] rfl rfl (by decide) rfl ?_
        exact j_iret jb jr dX7_weigh_120 ⟨_, _, _, _, _, _, _, _, _, _, _, _, _, _, rfl, rfl, (by first | exact h107 | (obtain rfl : kind = 1 := by omega); exact ⟨price_1.symm, fun _ => told_lt (by decide), by omega, by omega⟩ | (obtain rfl : kind = 0 := by omega); exact ⟨by first | exact (price_0t c_45).symm | exact (price_0f c_45).symm, fun _ => told_lt (by decide), by omega, by omega⟩)⟩
      · skip
        refine j_aload_n jb dX7_weigh_101 0 rfl ?_
        refine j_get jb f_X7_35 dX7_weigh_102 0 rfl rfl ?_
        refine j_aload_n jb dX7_weigh_105 0 rfl ?_
        refine j_iload_n jb dX7_weigh_106 1 rfl ?_
        refine j_callV (wr := [(w0, oX1 wc oo os), (wc, aI x.g 4 oc)]) jb k_X7_weighForetold i_X7_weighForetold s_X7_weighForetold l_X7_82 (C_X7_weighForetold_f x.l x.g h0 v0 w0 x0 P0 t0 hv wc xc hO hU hK hX tk tx kind n b w oo os fo fs n1 o1 f1 kind w bi (-1) v oc fc On Un K0 X0 fk0 fx0 hn hb hv9 e) 0 9 rfl rfl rfl [0, 1, 2, 5, 6, 7, 8, 9, 10, 11, 12, 13, 14] [3, 4] (by decide) rfl rfl (by decide) (by decide) rfl rfl (Nat.le_of_ble_eq_true rfl) (by decide) dX7_weigh_107 (fun v w hp => ?_)
        obtain ⟨r7, fp7, n7, o7, f7, c7, On7, Un7, K7, X7, fk7, fx7, rfl, rfl, h107⟩ := hp
        refine j_norm (lv' := [(0, .ref h0), (1, .int (iI kind))]) (st' := [.int (iI r7), .ref t0]) (ws' := [(h0, oX7 v0 w0 x0 P0 t0), (v0, oX10 hv n b w), (hv, aI x.g 400 v), (w0, oX1 wc oo os), (wc, aI x.g 4 oc), (x0, oX1 xc (kind - 2) 0), (xc, aI x.g 4 c7), (P0, oX6 hO hU hK hX n7 o7 f7), (hO, aL x.g 240 On7), (hU, aI x.g 16 Un7), (hK, aI x.g 16 K7), (hX, aI x.g 16 X7), (t0, oX8 tk tx kind w bi fp7), (tk, aI x.g 16 fk7), (tx, aI x.g 16 fx7)]) [0, 1] [2, 3, 4, 0, 1, 5, 6, 7, 8, 9, 10, 11, 12, 13, 14] rfl rfl (by decide) rfl ?_
        refine j_put (ws' := [(h0, oX7 v0 w0 x0 P0 t0), (v0, oX10 hv n b w), (hv, aI x.g 400 v), (w0, oX1 wc oo os), (wc, aI x.g 4 oc), (x0, oX1 xc (kind - 2) 0), (xc, aI x.g 4 c7), (P0, oX6 hO hU hK hX n7 o7 f7), (hO, aL x.g 240 On7), (hU, aI x.g 16 Un7), (hK, aI x.g 16 K7), (hX, aI x.g 16 X7), (t0, oX8 tk tx kind w r7 fp7), (tk, aI x.g 16 fk7), (tx, aI x.g 16 fx7)]) jb f_X7_50 w_X8_4 rfl dX7_weigh_110 12 rfl rfl rfl (Nat.le_of_ble_eq_true rfl) rfl ?_
        refine j_aload_n jb dX7_weigh_113 0 rfl ?_
        refine j_get jb f_X7_35 dX7_weigh_114 0 rfl rfl ?_
        refine j_get jb f_X7_50 dX7_weigh_117 12 rfl rfl ?_
        refine j_norm (lv' := []) (st' := [.int (iI r7)]) (ws' := [(h0, oX7 v0 w0 x0 P0 t0), (v0, oX10 hv n b w), (hv, aI x.g 400 v), (w0, oX1 wc oo os), (wc, aI x.g 4 oc), (x0, oX1 xc (kind - 2) 0), (xc, aI x.g 4 c7), (P0, oX6 hO hU hK hX n7 o7 f7), (hO, aL x.g 240 On7), (hU, aI x.g 16 Un7), (hK, aI x.g 16 K7), (hX, aI x.g 16 X7), (t0, oX8 tk tx kind w r7 fp7), (tk, aI x.g 16 fk7), (tx, aI x.g 16 fx7)]) [] [0, 1, 2, 3, 4, 5, 6, 7, 8, 9, 10, 11, 12, 13, 14] rfl rfl (by decide) rfl ?_
        exact j_iret jb jr dX7_weigh_120 ⟨_, _, _, _, _, _, _, _, _, _, _, _, _, _, rfl, rfl, (by first | exact h107 | (obtain rfl : kind = 1 := by omega); exact ⟨price_1.symm, fun _ => told_lt (by decide), by omega, by omega⟩ | (obtain rfl : kind = 0 := by omega); exact ⟨by first | exact (price_0t c_45).symm | exact (price_0f c_45).symm, fun _ => told_lt (by decide), by omega, by omega⟩)⟩
    · skip
      refine j_aload_n jb dX7_weigh_73 0 rfl ?_
      refine j_get jb f_X7_35 dX7_weigh_74 0 rfl rfl ?_
      refine j_bipush jb dX7_weigh_77 (by decide) ?_
      refine j_aload_n jb dX7_weigh_79 0 rfl ?_
      refine j_get jb f_X7_12 dX7_weigh_80 0 rfl rfl ?_
      refine j_get jb f_X7_79 dX7_weigh_83 1 rfl rfl ?_
      refine j_aload_n jb dX7_weigh_86 0 rfl ?_
      refine j_get jb f_X7_12 dX7_weigh_87 0 rfl rfl ?_
      refine j_get jb f_X7_76 dX7_weigh_90 1 rfl rfl ?_
      refine j_imul jb dX7_weigh_93 ?_
      refine j_iadd jb dX7_weigh_94 ?_
      refine j_put (ws' := [(h0, oX7 v0 w0 x0 P0 t0), (v0, oX10 hv n b w), (hv, aI x.g 400 v), (w0, oX1 wc oo os), (wc, aI x.g 4 oc), (x0, oX1 xc fo fs), (xc, aI x.g 4 fc), (P0, oX6 hO hU hK hX n1 o1 f1), (hO, aL x.g 240 On), (hU, aI x.g 16 Un), (hK, aI x.g 16 K0), (hX, aI x.g 16 X0), (t0, oX8 tk tx kind w (7 + (n * b)) (-1)), (tk, aI x.g 16 fk0), (tx, aI x.g 16 fx0)]) jb f_X7_50 w_X8_4 rfl dX7_weigh_95 12 rfl rfl rfl (Nat.le_of_ble_eq_true rfl) rfl ?_
      refine j_goto (tgt := 113) jb dX7_weigh_98 (by decide) ?_
      refine j_aload_n jb dX7_weigh_113 0 rfl ?_
      refine j_get jb f_X7_35 dX7_weigh_114 0 rfl rfl ?_
      refine j_get jb f_X7_50 dX7_weigh_117 12 rfl rfl ?_
      refine j_norm (lv' := []) (st' := [.int (iI (7 + (n * b)))]) (ws' := [(h0, oX7 v0 w0 x0 P0 t0), (v0, oX10 hv n b w), (hv, aI x.g 400 v), (w0, oX1 wc oo os), (wc, aI x.g 4 oc), (x0, oX1 xc fo fs), (xc, aI x.g 4 fc), (P0, oX6 hO hU hK hX n1 o1 f1), (hO, aL x.g 240 On), (hU, aI x.g 16 Un), (hK, aI x.g 16 K0), (hX, aI x.g 16 X0), (t0, oX8 tk tx kind w (7 + (n * b)) (-1)), (tk, aI x.g 16 fk0), (tx, aI x.g 16 fx0)]) [] [0, 1, 2, 3, 4, 5, 6, 7, 8, 9, 10, 11, 12, 13, 14] rfl rfl (by decide) rfl ?_
      exact j_iret jb jr dX7_weigh_120 ⟨_, _, _, _, _, _, _, _, _, _, _, _, _, _, rfl, rfl, (by first | exact h107 | (obtain rfl : kind = 1 := by omega); exact ⟨price_1.symm, fun _ => told_lt (by decide), by omega, by omega⟩ | (obtain rfl : kind = 0 := by omega); exact ⟨by first | exact (price_0t c_45).symm | exact (price_0f c_45).symm, fun _ => told_lt (by decide), by omega, by omega⟩)⟩
  · skip
    refine j_aload_n jb dX7_weigh_34 0 rfl ?_
    refine j_get jb f_X7_35 dX7_weigh_35 0 rfl rfl ?_
    refine j_aload_n jb dX7_weigh_38 0 rfl ?_
    refine j_get jb f_X7_12 dX7_weigh_39 0 rfl rfl ?_
    refine j_callV (wr := [(h0, oX7 v0 w0 x0 P0 t0), (w0, oX1 wc oo os), (wc, aI x.g 4 oc), (x0, oX1 xc fo fs), (xc, aI x.g 4 fc), (P0, oX6 hO hU hK hX n1 o1 f1), (hO, aL x.g 240 On), (hU, aI x.g 16 Un), (hK, aI x.g 16 K0), (hX, aI x.g 16 X0), (t0, oX8 tk tx kind w bi (-1)), (tk, aI x.g 16 fk0), (tx, aI x.g 16 fx0)]) jb k_X10_areAlike i_X10_areAlike s_X10_areAlike l_X7_72 (C_X10_areAlike x.l x.g v0 hv v n b w (by omega) (fun j h1 h2 => by have := hv9 j h1 h2; omega)) 1 12 rfl rfl rfl [1, 2] [0, 3, 4, 5, 6, 7, 8, 9, 10, 11, 12, 13, 14] (by decide) rfl rfl (by decide) (by decide) rfl rfl (Nat.le_of_ble_eq_true rfl) (by decide) dX7_weigh_42 (fun v w hp => ?_)
    obtain ⟨rfl, rfl⟩ := hp
    refine j_norm (lv' := [(0, .ref h0), (1, .int (iI kind))]) (st' := [.int (iI (b2i (alk v n.toNat = true))), .ref t0]) (ws' := [(h0, oX7 v0 w0 x0 P0 t0), (v0, oX10 hv n b w), (hv, aI x.g 400 v), (w0, oX1 wc oo os), (wc, aI x.g 4 oc), (x0, oX1 xc fo fs), (xc, aI x.g 4 fc), (P0, oX6 hO hU hK hX n1 o1 f1), (hO, aL x.g 240 On), (hU, aI x.g 16 Un), (hK, aI x.g 16 K0), (hX, aI x.g 16 X0), (t0, oX8 tk tx kind w bi (-1)), (tk, aI x.g 16 fk0), (tx, aI x.g 16 fx0)]) [0, 1] [0, 13, 14, 1, 2, 3, 4, 5, 6, 7, 8, 9, 10, 11, 12] rfl rfl (by decide) rfl ?_
    refine j_ifb_eq (tgt := 61) jb dX7_weigh_45 (by decide) (fun c_45 => ?_) (fun c_45 => ?_)
    · skip
      refine j_iconst jb dX7_weigh_61 ?_
      refine j_put (ws' := [(h0, oX7 v0 w0 x0 P0 t0), (v0, oX10 hv n b w), (hv, aI x.g 400 v), (w0, oX1 wc oo os), (wc, aI x.g 4 oc), (x0, oX1 xc fo fs), (xc, aI x.g 4 fc), (P0, oX6 hO hU hK hX n1 o1 f1), (hO, aL x.g 240 On), (hU, aI x.g 16 Un), (hK, aI x.g 16 K0), (hX, aI x.g 16 X0), (t0, oX8 tk tx kind w (-1) (-1)), (tk, aI x.g 16 fk0), (tx, aI x.g 16 fx0)]) jb f_X7_50 w_X8_4 rfl dX7_weigh_62 12 rfl rfl rfl (Nat.le_of_ble_eq_true rfl) rfl ?_
      refine j_goto (tgt := 113) jb dX7_weigh_65 (by decide) ?_
      refine j_aload_n jb dX7_weigh_113 0 rfl ?_
      refine j_get jb f_X7_35 dX7_weigh_114 0 rfl rfl ?_
      refine j_get jb f_X7_50 dX7_weigh_117 12 rfl rfl ?_
      refine j_norm (lv' := []) (st' := [.int (iI (-1))]) (ws' := [(h0, oX7 v0 w0 x0 P0 t0), (v0, oX10 hv n b w), (hv, aI x.g 400 v), (w0, oX1 wc oo os), (wc, aI x.g 4 oc), (x0, oX1 xc fo fs), (xc, aI x.g 4 fc), (P0, oX6 hO hU hK hX n1 o1 f1), (hO, aL x.g 240 On), (hU, aI x.g 16 Un), (hK, aI x.g 16 K0), (hX, aI x.g 16 X0), (t0, oX8 tk tx kind w (-1) (-1)), (tk, aI x.g 16 fk0), (tx, aI x.g 16 fx0)]) [] [0, 1, 2, 3, 4, 5, 6, 7, 8, 9, 10, 11, 12, 13, 14] rfl rfl (by decide) rfl ?_
      exact j_iret jb jr dX7_weigh_120 ⟨_, _, _, _, _, _, _, _, _, _, _, _, _, _, rfl, rfl, (by first | exact h107 | (obtain rfl : kind = 1 := by omega); exact ⟨price_1.symm, fun _ => told_lt (by decide), by omega, by omega⟩ | (obtain rfl : kind = 0 := by omega); exact ⟨by first | exact (price_0t c_45).symm | exact (price_0f c_45).symm, fun _ => told_lt (by decide), by omega, by omega⟩)⟩
    · skip
      refine j_bipush jb dX7_weigh_48 (by decide) ?_
      refine j_aload_n jb dX7_weigh_50 0 rfl ?_
      refine j_get jb f_X7_12 dX7_weigh_51 0 rfl rfl ?_
      refine j_get jb f_X7_76 dX7_weigh_54 1 rfl rfl ?_
      refine j_iadd jb dX7_weigh_57 ?_
      refine j_goto (tgt := 62) jb dX7_weigh_58 (by decide) ?_
      refine j_put (ws' := [(h0, oX7 v0 w0 x0 P0 t0), (v0, oX10 hv n b w), (hv, aI x.g 400 v), (w0, oX1 wc oo os), (wc, aI x.g 4 oc), (x0, oX1 xc fo fs), (xc, aI x.g 4 fc), (P0, oX6 hO hU hK hX n1 o1 f1), (hO, aL x.g 240 On), (hU, aI x.g 16 Un), (hK, aI x.g 16 K0), (hX, aI x.g 16 X0), (t0, oX8 tk tx kind w (7 + b) (-1)), (tk, aI x.g 16 fk0), (tx, aI x.g 16 fx0)]) jb f_X7_50 w_X8_4 rfl dX7_weigh_62 12 rfl rfl rfl (Nat.le_of_ble_eq_true rfl) rfl ?_
      refine j_goto (tgt := 113) jb dX7_weigh_65 (by decide) ?_
      refine j_aload_n jb dX7_weigh_113 0 rfl ?_
      refine j_get jb f_X7_35 dX7_weigh_114 0 rfl rfl ?_
      refine j_get jb f_X7_50 dX7_weigh_117 12 rfl rfl ?_
      refine j_norm (lv' := []) (st' := [.int (iI (7 + b))]) (ws' := [(h0, oX7 v0 w0 x0 P0 t0), (v0, oX10 hv n b w), (hv, aI x.g 400 v), (w0, oX1 wc oo os), (wc, aI x.g 4 oc), (x0, oX1 xc fo fs), (xc, aI x.g 4 fc), (P0, oX6 hO hU hK hX n1 o1 f1), (hO, aL x.g 240 On), (hU, aI x.g 16 Un), (hK, aI x.g 16 K0), (hX, aI x.g 16 X0), (t0, oX8 tk tx kind w (7 + b) (-1)), (tk, aI x.g 16 fk0), (tx, aI x.g 16 fx0)]) [] [0, 1, 2, 3, 4, 5, 6, 7, 8, 9, 10, 11, 12, 13, 14] rfl rfl (by decide) rfl ?_
      exact j_iret jb jr dX7_weigh_120 ⟨_, _, _, _, _, _, _, _, _, _, _, _, _, _, rfl, rfl, (by first | exact h107 | (obtain rfl : kind = 1 := by omega); exact ⟨price_1.symm, fun _ => told_lt (by decide), by omega, by omega⟩ | (obtain rfl : kind = 0 := by omega); exact ⟨by first | exact (price_0t c_45).symm | exact (price_0f c_45).symm, fun _ => told_lt (by decide), by omega, by omega⟩)⟩

set_option maxHeartbeats 4000000 in
set_option maxRecDepth 100000 in
theorem C_X7_chooseRow (l : Launch) (g : GG) (h0 v0 w0 x0 P0 t0 hv wc xc hO hU hK hX tk tx : Nat) (hf g0 gk gx : Nat) (cnt rb gkd gws gbi gp : Int) (f gk0 gx0 : Int → Int) (n b w oo os fo fs n1 o1 f1 kd ws bi p0 : Int) (v oc fc On Un K0 X0 fk0 fx0 : Int → Int) (hc : 1 ≤ cnt ∧ cnt ≤ 400) (hrb : 1 ≤ rb ∧ rb ≤ 17) (hf9 : ∀ j, 0 ≤ j → j < cnt → -65536 ≤ f j ∧ f j < 65536) (hoo : 0 ≤ oo ∧ oo ≤ 4) (hos : 0 < oo → 0 ≤ os ∧ os ≤ 15) (hcf : cfOk oc) : Ctr l g yX7_chooseRow cX7_chooseRow 7 none 5 230 0 0 [.ref h0, .ref hf, .int (iI cnt), .int (iI rb), .ref g0] [(h0, oX7 v0 w0 x0 P0 t0), (v0, oX10 hv n b w), (hv, aI g 400 v), (w0, oX1 wc oo os), (wc, aI g 4 oc), (x0, oX1 xc fo fs), (xc, aI g 4 fc), (P0, oX6 hO hU hK hX n1 o1 f1), (hO, aL g 240 On), (hU, aI g 16 Un), (hK, aI g 16 K0), (hX, aI g 16 X0), (t0, oX8 tk tx kd ws bi p0), (tk, aI g 16 fk0), (tx, aI g 16 fx0), (hf, aI g 400 f), (g0, oX8 gk gx gkd gws gbi gp), (gk, aI g 16 gk0), (gx, aI g 16 gx0)] (fun vv ww => ∃ (w9 fkd fws fbi fpp n2 o2 f2 fo2 fs2 kd2 ws2 bi2 p2 : Int) (v2 c2 On2 Un2 K2 X2 tk2 tx2 gk2 gx2 : Int → Int), vv = none ∧ ww = [(h0, oX7 v0 w0 x0 P0 t0), (v0, oX10 hv cnt (rb - w9) w9), (hv, aI g 400 v2), (w0, oX1 wc oo os), (wc, aI g 4 oc), (x0, oX1 xc fo2 fs2), (xc, aI g 4 c2), (P0, oX6 hO hU hK hX n2 o2 f2), (hO, aL g 240 On2), (hU, aI g 16 Un2), (hK, aI g 16 K2), (hX, aI g 16 X2), (t0, oX8 tk tx kd2 ws2 bi2 p2), (tk, aI g 16 tk2), (tx, aI g 16 tx2), (hf, aI g 400 f), (g0, oX8 gk gx fkd fws fbi fpp), (gk, aI g 16 gk2), (gx, aI g 16 gx2)] ∧ isW (orF f cnt.toNat) rb w9 ∧ (0 ≤ w9 ∧ w9 ≤ 15 ∧ w9 ≤ rb - 1) ∧ (∀ j, 0 ≤ j → j < cnt → v2 j = f j / 2 ^ w9.toNat) ∧ rowIs v2 cnt (rb - w9) oo os oc fkd fbi fpp gk2 gx2 ∧ fws = w9) := by
  refine Ctr.of [(0, .ref h0), (1, .ref hf), (2, .int (iI cnt)), (3, .int (iI rb)), (4, .ref g0)] (by decide) (Nat.le_of_ble_eq_true rfl) rfl ?_
  intro x hxl hxg jb jr hin
  subst hxl; subst hxg
  refine j_aload_n jb dX7_chooseRow_0 0 rfl ?_
  refine j_get jb f_X7_12 dX7_chooseRow_1 0 rfl rfl ?_
  refine j_aload_n jb dX7_chooseRow_4 1 rfl ?_
  refine j_iload_n jb dX7_chooseRow_5 2 rfl ?_
  refine j_iload_n jb dX7_chooseRow_6 3 rfl ?_
  refine j_callV (wr := [(h0, oX7 v0 w0 x0 P0 t0), (w0, oX1 wc oo os), (wc, aI x.g 4 oc), (x0, oX1 xc fo fs), (xc, aI x.g 4 fc), (P0, oX6 hO hU hK hX n1 o1 f1), (hO, aL x.g 240 On), (hU, aI x.g 16 Un), (hK, aI x.g 16 K0), (hX, aI x.g 16 X0), (t0, oX8 tk tx kd ws bi p0), (tk, aI x.g 16 fk0), (tx, aI x.g 16 fx0), (g0, oX8 gk gx gkd gws gbi gp), (gk, aI x.g 16 gk0), (gx, aI x.g 16 gx0)]) jb k_X10_strip i_X10_strip s_X10_strip l_X7_46 (C_X10_strip x.l x.g v0 hv hf v f n b w cnt rb (by omega) (by omega) hf9) 1 12 rfl rfl rfl [1, 2, 15] [0, 3, 4, 5, 6, 7, 8, 9, 10, 11, 12, 13, 14, 16, 17, 18] (by decide) rfl rfl (by decide) (by decide) rfl rfl (Nat.le_of_ble_eq_true rfl) (by decide) dX7_chooseRow_7 (fun v w hp => ?_)
  obtain ⟨v2, w9, rfl, rfl, h7⟩ := hp
  refine j_norm (lv' := [(0, .ref h0), (1, .ref hf), (2, .int (iI cnt)), (3, .int (iI rb)), (4, .ref g0)]) (st' := []) (ws' := [(h0, oX7 v0 w0 x0 P0 t0), (v0, oX10 hv cnt (rb - w9) w9), (hv, aI x.g 400 v2), (w0, oX1 wc oo os), (wc, aI x.g 4 oc), (x0, oX1 xc fo fs), (xc, aI x.g 4 fc), (P0, oX6 hO hU hK hX n1 o1 f1), (hO, aL x.g 240 On), (hU, aI x.g 16 Un), (hK, aI x.g 16 K0), (hX, aI x.g 16 X0), (t0, oX8 tk tx kd ws bi p0), (tk, aI x.g 16 fk0), (tx, aI x.g 16 fx0), (hf, aI x.g 400 f), (g0, oX8 gk gx gkd gws gbi gp), (gk, aI x.g 16 gk0), (gx, aI x.g 16 gx0)]) [0, 1, 2, 3, 4] [0, 16, 17, 1, 2, 3, 4, 5, 6, 7, 8, 9, 10, 11, 12, 18, 13, 14, 15] rfl rfl (by decide) rfl ?_
  have hv9 : vOk v2 cnt := vOk_strip hf9 h7.2.1.1 h7.2.2
  refine j_aload jb dX7_chooseRow_10 4 rfl ?_
  refine j_iconst jb dX7_chooseRow_12 ?_
  refine j_put (ws' := [(h0, oX7 v0 w0 x0 P0 t0), (v0, oX10 hv cnt (rb - w9) w9), (hv, aI x.g 400 v2), (w0, oX1 wc oo os), (wc, aI x.g 4 oc), (x0, oX1 xc fo fs), (xc, aI x.g 4 fc), (P0, oX6 hO hU hK hX n1 o1 f1), (hO, aL x.g 240 On), (hU, aI x.g 16 Un), (hK, aI x.g 16 K0), (hX, aI x.g 16 X0), (t0, oX8 tk tx kd ws bi p0), (tk, aI x.g 16 fk0), (tx, aI x.g 16 fx0), (hf, aI x.g 400 f), (g0, oX8 gk gx gkd gws (-1) gp), (gk, aI x.g 16 gk0), (gx, aI x.g 16 gx0)]) jb f_X7_50 w_X8_4 rfl dX7_chooseRow_13 16 rfl rfl rfl (Nat.le_of_ble_eq_true rfl) rfl ?_
  refine j_iconst jb dX7_chooseRow_16 ?_
  refine j_istore (lv' := [(5, .int (iI 0)), (0, .ref h0), (1, .ref hf), (2, .int (iI cnt)), (3, .int (iI rb)), (4, .ref g0)]) jb dX7_chooseRow_17 (by decide) rfl ?_
  have L19 : ∀ (fu : Nat) (i fkd fws fbi fpp n2 o2 f2 fo2 fs2 kd2 ws2 bi2 p2 : Int) (c2 On2 Un2 K2 X2 tk2 tx2 gk2 gx2 : Int → Int), (0 ≤ i ∧ i ≤ 8 ∧ (-1 ≤ fbi ∧ fbi ≤ 300000) ∧ (i = 0 → fbi = -1) ∧ (0 < i → fbi = (bK (prF v2 cnt (rb - w9) oo os oc) (i - 1).toNat).1 ∧ (fbi ≠ -1 → fkd = (bK (prF v2 cnt (rb - w9) oo os oc) (i - 1).toNat).2 ∧ fws = w9 ∧ (0 ≤ fkd ∧ fkd ≤ 7) ∧ rowTold v2 cnt oo os oc fkd fpp gk2 gx2))) → (8 - i).toNat < fu → JW x 0 0 19 [(0, .ref h0), (1, .ref hf), (2, .int (iI cnt)), (3, .int (iI rb)), (4, .ref g0), (5, .int (iI i))] [] [(h0, oX7 v0 w0 x0 P0 t0), (v0, oX10 hv cnt (rb - w9) w9), (hv, aI x.g 400 v2), (w0, oX1 wc oo os), (wc, aI x.g 4 oc), (x0, oX1 xc fo2 fs2), (xc, aI x.g 4 c2), (P0, oX6 hO hU hK hX n2 o2 f2), (hO, aL x.g 240 On2), (hU, aI x.g 16 Un2), (hK, aI x.g 16 K2), (hX, aI x.g 16 X2), (t0, oX8 tk tx kd2 ws2 bi2 p2), (tk, aI x.g 16 tk2), (tx, aI x.g 16 tx2), (hf, aI x.g 400 f), (g0, oX8 gk gx fkd fws fbi fpp), (gk, aI x.g 16 gk2), (gx, aI x.g 16 gx2)] := by
    intro fu
    induction fu with
    | zero => intro i fkd fws fbi fpp n2 o2 f2 fo2 fs2 kd2 ws2 bi2 p2 c2 On2 Un2 K2 X2 tk2 tx2 gk2 gx2 _ hm; exact absurd hm (by omega)
    | succ fu ih =>
      intro i fkd fws fbi fpp n2 o2 f2 fo2 fs2 kd2 ws2 bi2 p2 c2 On2 Un2 K2 X2 tk2 tx2 gk2 gx2 ⟨hi1, hi2, hi3, hi4, hi5⟩ hm19
      have ih19 := ih
      clear ih
      refine j_iload jb dX7_chooseRow_19 5 rfl ?_
      refine j_bipush jb dX7_chooseRow_21 (by decide) ?_
      refine j_icmp_ge (tgt := 74) jb dX7_chooseRow_23 (by decide) (by omega) (by omega) (fun c_23 => ?_) (fun c_23 => ?_)
      · skip
        have hi8 : i = 8 := by omega
        have hfi := hi5 (by omega)
        rw [hi8, show ((8 : Int) - 1).toNat = 7 from rfl] at hfi
        have hne := bK_ne (prF v2 cnt (rb - w9) oo os oc) (by show (7 + cnt * (rb - w9) : Int) ≠ -1; have := Int.mul_nonneg (show 0 ≤ cnt by omega) (show 0 ≤ rb - w9 by omega); omega) 6
        rw [← hfi.1] at hne
        have hf2 := hfi.2 hne
        have hws : fws = w9 := hf2.2.1
        refine j_norm (lv' := []) (st' := []) (ws' := [(h0, oX7 v0 w0 x0 P0 t0), (v0, oX10 hv cnt (rb - w9) w9), (hv, aI x.g 400 v2), (w0, oX1 wc oo os), (wc, aI x.g 4 oc), (x0, oX1 xc fo2 fs2), (xc, aI x.g 4 c2), (P0, oX6 hO hU hK hX n2 o2 f2), (hO, aL x.g 240 On2), (hU, aI x.g 16 Un2), (hK, aI x.g 16 K2), (hX, aI x.g 16 X2), (t0, oX8 tk tx kd2 ws2 bi2 p2), (tk, aI x.g 16 tk2), (tx, aI x.g 16 tx2), (hf, aI x.g 400 f), (g0, oX8 gk gx fkd fws fbi fpp), (gk, aI x.g 16 gk2), (gx, aI x.g 16 gx2)]) [] [0, 1, 2, 3, 4, 5, 6, 7, 8, 9, 10, 11, 12, 13, 14, 15, 16, 17, 18] rfl rfl (by decide) rfl ?_
        exact j_vret jb jr dX7_chooseRow_74 ⟨_, _, _, _, _, _, _, _, _, _, _, _, _, _, _, _, _, _, _, _, _, _, _, _, rfl, rfl, ⟨h7.1, h7.2.1, h7.2.2, ⟨hfi.1, hf2.1, hne, hi3.2, hf2.2.2.1, hf2.2.2.2⟩, hws⟩⟩
      · skip
        refine j_aload_n jb dX7_chooseRow_26 0 rfl ?_
        refine j_iload jb dX7_chooseRow_27 5 rfl ?_
        refine j_callV (wr := [(hf, aI x.g 400 f), (g0, oX8 gk gx fkd fws fbi fpp), (gk, aI x.g 16 gk2), (gx, aI x.g 16 gx2)]) jb k_X7_weigh i_X7_weigh s_X7_weigh l_X7_54 (C_X7_weigh x.l x.g h0 v0 w0 x0 P0 t0 hv wc xc hO hU hK hX tk tx i cnt (rb - w9) w9 oo os fo2 fs2 n2 o2 f2 kd2 ws2 bi2 p2 v2 oc c2 On2 Un2 K2 X2 tk2 tx2 hc (by omega) hv9 (by omega) hoo hos hcf) 0 9 rfl rfl rfl [0, 1, 2, 3, 4, 5, 6, 7, 8, 9, 10, 11, 12, 13, 14] [15, 16, 17, 18] (by decide) rfl rfl (by decide) (by decide) rfl rfl (Nat.le_of_ble_eq_true rfl) (by decide) dX7_chooseRow_29 (fun v w hp => ?_)
        obtain ⟨r, fp3, n3, o3, f3, fo3, fs3, c3, On3, Un3, K3, X3, tk3, tx3, rfl, rfl, h29⟩ := hp
        refine j_norm (lv' := [(0, .ref h0), (1, .ref hf), (2, .int (iI cnt)), (3, .int (iI rb)), (4, .ref g0), (5, .int (iI i))]) (st' := [.int (iI r)]) (ws' := [(h0, oX7 v0 w0 x0 P0 t0), (v0, oX10 hv cnt (rb - w9) w9), (hv, aI x.g 400 v2), (w0, oX1 wc oo os), (wc, aI x.g 4 oc), (x0, oX1 xc fo3 fs3), (xc, aI x.g 4 c3), (P0, oX6 hO hU hK hX n3 o3 f3), (hO, aL x.g 240 On3), (hU, aI x.g 16 Un3), (hK, aI x.g 16 K3), (hX, aI x.g 16 X3), (t0, oX8 tk tx i w9 r fp3), (tk, aI x.g 16 tk3), (tx, aI x.g 16 tx3), (hf, aI x.g 400 f), (g0, oX8 gk gx fkd fws fbi fpp), (gk, aI x.g 16 gk2), (gx, aI x.g 16 gx2)]) [0, 1, 2, 3, 4, 5] [4, 5, 6, 7, 8, 9, 10, 11, 12, 13, 14, 15, 16, 17, 18, 0, 1, 2, 3] rfl rfl (by decide) rfl ?_
        refine j_istore (lv' := [(6, .int (iI r)), (0, .ref h0), (1, .ref hf), (2, .int (iI cnt)), (3, .int (iI rb)), (4, .ref g0), (5, .int (iI i))]) jb dX7_chooseRow_32 (by decide) rfl ?_
        refine j_iload jb dX7_chooseRow_34 0 rfl ?_
        refine j_iconst jb dX7_chooseRow_36 ?_
        refine j_icmp_eq (tgt := 68) jb dX7_chooseRow_37 (by decide) (by omega) (by omega) (fun c_37 => ?_) (fun c_37 => ?_)
        · skip
          refine j_iinc (lv' := [(5, .int (iI (i + 1))), (6, .int (iI r)), (0, .ref h0), (1, .ref hf), (2, .int (iI cnt)), (3, .int (iI rb)), (4, .ref g0)]) jb dX7_chooseRow_68 6 rfl (by decide) rfl ?_
          refine j_goto (tgt := 19) jb dX7_chooseRow_71 (by decide) ?_
          refine j_norm (lv' := [(0, .ref h0), (1, .ref hf), (2, .int (iI cnt)), (3, .int (iI rb)), (4, .ref g0), (5, .int (iI (i + 1)))]) (st' := []) (ws' := [(h0, oX7 v0 w0 x0 P0 t0), (v0, oX10 hv cnt (rb - w9) w9), (hv, aI x.g 400 v2), (w0, oX1 wc oo os), (wc, aI x.g 4 oc), (x0, oX1 xc fo3 fs3), (xc, aI x.g 4 c3), (P0, oX6 hO hU hK hX n3 o3 f3), (hO, aL x.g 240 On3), (hU, aI x.g 16 Un3), (hK, aI x.g 16 K3), (hX, aI x.g 16 X3), (t0, oX8 tk tx i w9 r fp3), (tk, aI x.g 16 tk3), (tx, aI x.g 16 tx3), (hf, aI x.g 400 f), (g0, oX8 gk gx fkd fws fbi fpp), (gk, aI x.g 16 gk2), (gx, aI x.g 16 gx2)]) [2, 3, 4, 5, 6, 0] [0, 1, 2, 3, 4, 5, 6, 7, 8, 9, 10, 11, 12, 13, 14, 15, 16, 17, 18] rfl rfl (by decide) rfl ?_
          exact ih19 (i + 1) fkd fws fbi fpp n3 o3 f3 fo3 fs3 i w9 r fp3 c3 On3 Un3 K3 X3 tk3 tx3 gk2 gx2 (by have hpr : r = (prF v2 cnt (rb - w9) oo os oc) i.toNat := (by unfold prF; rw [show (i.toNat : Int) = i by omega]; exact h29.1); first | (have z := bK_new (pr := (prF v2 cnt (rb - w9) oo os oc)) hi1 (by rw [← hpr]; exact c_37) (by (by_cases q : i = 0); { exact Or.inl q }; { right; rw [← hpr, ← (hi5 (by omega)).1]; omega }); rw [← hpr] at z; exact ⟨by omega, by omega, h29.2.2, fun h => by omega, fun _ => by rw [show i + 1 - 1 = i by omega, z]; exact ⟨rfl, fun h => ⟨rfl, rfl, by omega, told_copy (h29.2.1 h) h65.1 h65.2⟩⟩⟩) | ((by_cases q : i = 0); { have hb1 := hi4 q; have z : bK (prF v2 cnt (rb - w9) oo os oc) i.toNat = (r, 0) := (by rw [hpr, q]; rfl); exact ⟨by omega, by omega, hi3, fun h => by omega, fun _ => by rw [show i + 1 - 1 = i by omega, z]; exact ⟨by omega, fun h => absurd hb1 h⟩⟩ }; { have z := bK_old (pr := (prF v2 cnt (rb - w9) oo os oc)) (i := i) (by omega) (by rw [← hpr, ← (hi5 (by omega)).1]; omega); exact ⟨by omega, by omega, hi3, fun h => by omega, fun _ => by rw [show i + 1 - 1 = i by omega, z]; exact hi5 (by omega)⟩ })) (by omega)
        · skip
          refine j_aload jb dX7_chooseRow_40 5 rfl ?_
          refine j_get jb f_X7_50 dX7_chooseRow_42 16 rfl rfl ?_
          refine j_iconst jb dX7_chooseRow_45 ?_
          refine j_icmp_eq (tgt := 59) jb dX7_chooseRow_46 (by decide) (by omega) (by omega) (fun c_46 => ?_) (fun c_46 => ?_)
          · skip
            refine j_aload jb dX7_chooseRow_59 5 rfl ?_
            refine j_aload_n jb dX7_chooseRow_61 1 rfl ?_
            refine j_get jb f_X7_35 dX7_chooseRow_62 0 rfl rfl ?_
            refine j_callV (wr := [(h0, oX7 v0 w0 x0 P0 t0), (v0, oX10 hv cnt (rb - w9) w9), (hv, aI x.g 400 v2), (w0, oX1 wc oo os), (wc, aI x.g 4 oc), (x0, oX1 xc fo3 fs3), (xc, aI x.g 4 c3), (P0, oX6 hO hU hK hX n3 o3 f3), (hO, aL x.g 240 On3), (hU, aI x.g 16 Un3), (hK, aI x.g 16 K3), (hX, aI x.g 16 X3), (hf, aI x.g 400 f)]) jb k_X8_copyFrom i_X8_copyFrom s_X8_copyFrom l_X7_58 (C_X8_copyFrom x.l x.g g0 gk gx t0 tk tx fkd fws fbi fpp i w9 r fp3 gk2 gx2 tk3 tx3 ) 16 10 rfl rfl rfl [16, 17, 18, 12, 13, 14] [0, 1, 2, 3, 4, 5, 6, 7, 8, 9, 10, 11, 15] (by decide) rfl rfl (by decide) (by decide) rfl rfl (Nat.le_of_ble_eq_true rfl) (by decide) dX7_chooseRow_65 (fun v w hp => ?_)
            obtain ⟨gk3, gx3, rfl, rfl, h65⟩ := hp
            refine j_norm (lv' := [(6, .int (iI r)), (0, .ref h0), (1, .ref hf), (2, .int (iI cnt)), (3, .int (iI rb)), (4, .ref g0), (5, .int (iI i))]) (st' := []) (ws' := [(h0, oX7 v0 w0 x0 P0 t0), (v0, oX10 hv cnt (rb - w9) w9), (hv, aI x.g 400 v2), (w0, oX1 wc oo os), (wc, aI x.g 4 oc), (x0, oX1 xc fo3 fs3), (xc, aI x.g 4 c3), (P0, oX6 hO hU hK hX n3 o3 f3), (hO, aL x.g 240 On3), (hU, aI x.g 16 Un3), (hK, aI x.g 16 K3), (hX, aI x.g 16 X3), (t0, oX8 tk tx i w9 r fp3), (tk, aI x.g 16 tk3), (tx, aI x.g 16 tx3), (hf, aI x.g 400 f), (g0, oX8 gk gx i w9 r fp3), (gk, aI x.g 16 gk3), (gx, aI x.g 16 gx3)]) [0, 1, 2, 3, 4, 5, 6] [0, 1, 2, 3, 4, 5, 6, 7, 8, 9, 10, 11, 16, 17, 18, 12, 13, 14, 15] rfl rfl (by decide) rfl ?_
            refine j_iinc (lv' := [(5, .int (iI (i + 1))), (6, .int (iI r)), (0, .ref h0), (1, .ref hf), (2, .int (iI cnt)), (3, .int (iI rb)), (4, .ref g0)]) jb dX7_chooseRow_68 6 rfl (by decide) rfl ?_
            refine j_goto (tgt := 19) jb dX7_chooseRow_71 (by decide) ?_
            refine j_norm (lv' := [(0, .ref h0), (1, .ref hf), (2, .int (iI cnt)), (3, .int (iI rb)), (4, .ref g0), (5, .int (iI (i + 1)))]) (st' := []) (ws' := [(h0, oX7 v0 w0 x0 P0 t0), (v0, oX10 hv cnt (rb - w9) w9), (hv, aI x.g 400 v2), (w0, oX1 wc oo os), (wc, aI x.g 4 oc), (x0, oX1 xc fo3 fs3), (xc, aI x.g 4 c3), (P0, oX6 hO hU hK hX n3 o3 f3), (hO, aL x.g 240 On3), (hU, aI x.g 16 Un3), (hK, aI x.g 16 K3), (hX, aI x.g 16 X3), (t0, oX8 tk tx i w9 r fp3), (tk, aI x.g 16 tk3), (tx, aI x.g 16 tx3), (hf, aI x.g 400 f), (g0, oX8 gk gx i w9 r fp3), (gk, aI x.g 16 gk3), (gx, aI x.g 16 gx3)]) [2, 3, 4, 5, 6, 0] [0, 1, 2, 3, 4, 5, 6, 7, 8, 9, 10, 11, 12, 13, 14, 15, 16, 17, 18] rfl rfl (by decide) rfl ?_
            exact ih19 (i + 1) i w9 r fp3 n3 o3 f3 fo3 fs3 i w9 r fp3 c3 On3 Un3 K3 X3 tk3 tx3 gk3 gx3 (by have hpr : r = (prF v2 cnt (rb - w9) oo os oc) i.toNat := (by unfold prF; rw [show (i.toNat : Int) = i by omega]; exact h29.1); first | (have z := bK_new (pr := (prF v2 cnt (rb - w9) oo os oc)) hi1 (by rw [← hpr]; exact c_37) (by (by_cases q : i = 0); { exact Or.inl q }; { right; rw [← hpr, ← (hi5 (by omega)).1]; omega }); rw [← hpr] at z; exact ⟨by omega, by omega, h29.2.2, fun h => by omega, fun _ => by rw [show i + 1 - 1 = i by omega, z]; exact ⟨rfl, fun h => ⟨rfl, rfl, by omega, told_copy (h29.2.1 h) h65.1 h65.2⟩⟩⟩) | ((by_cases q : i = 0); { have hb1 := hi4 q; have z : bK (prF v2 cnt (rb - w9) oo os oc) i.toNat = (r, 0) := (by rw [hpr, q]; rfl); exact ⟨by omega, by omega, hi3, fun h => by omega, fun _ => by rw [show i + 1 - 1 = i by omega, z]; exact ⟨by omega, fun h => absurd hb1 h⟩⟩ }; { have z := bK_old (pr := (prF v2 cnt (rb - w9) oo os oc)) (i := i) (by omega) (by rw [← hpr, ← (hi5 (by omega)).1]; omega); exact ⟨by omega, by omega, hi3, fun h => by omega, fun _ => by rw [show i + 1 - 1 = i by omega, z]; exact hi5 (by omega)⟩ })) (by omega)
          · skip
            refine j_iload jb dX7_chooseRow_49 0 rfl ?_
            refine j_aload jb dX7_chooseRow_51 5 rfl ?_
            refine j_get jb f_X7_50 dX7_chooseRow_53 16 rfl rfl ?_
            refine j_icmp_ge (tgt := 68) jb dX7_chooseRow_56 (by decide) (by omega) (by omega) (fun c_56 => ?_) (fun c_56 => ?_)
            · skip
              refine j_iinc (lv' := [(5, .int (iI (i + 1))), (6, .int (iI r)), (0, .ref h0), (1, .ref hf), (2, .int (iI cnt)), (3, .int (iI rb)), (4, .ref g0)]) jb dX7_chooseRow_68 6 rfl (by decide) rfl ?_
              refine j_goto (tgt := 19) jb dX7_chooseRow_71 (by decide) ?_
              refine j_norm (lv' := [(0, .ref h0), (1, .ref hf), (2, .int (iI cnt)), (3, .int (iI rb)), (4, .ref g0), (5, .int (iI (i + 1)))]) (st' := []) (ws' := [(h0, oX7 v0 w0 x0 P0 t0), (v0, oX10 hv cnt (rb - w9) w9), (hv, aI x.g 400 v2), (w0, oX1 wc oo os), (wc, aI x.g 4 oc), (x0, oX1 xc fo3 fs3), (xc, aI x.g 4 c3), (P0, oX6 hO hU hK hX n3 o3 f3), (hO, aL x.g 240 On3), (hU, aI x.g 16 Un3), (hK, aI x.g 16 K3), (hX, aI x.g 16 X3), (t0, oX8 tk tx i w9 r fp3), (tk, aI x.g 16 tk3), (tx, aI x.g 16 tx3), (hf, aI x.g 400 f), (g0, oX8 gk gx fkd fws fbi fpp), (gk, aI x.g 16 gk2), (gx, aI x.g 16 gx2)]) [2, 3, 4, 5, 6, 0] [0, 1, 2, 3, 4, 5, 6, 7, 8, 9, 10, 11, 12, 13, 14, 15, 16, 17, 18] rfl rfl (by decide) rfl ?_
              exact ih19 (i + 1) fkd fws fbi fpp n3 o3 f3 fo3 fs3 i w9 r fp3 c3 On3 Un3 K3 X3 tk3 tx3 gk2 gx2 (by have hpr : r = (prF v2 cnt (rb - w9) oo os oc) i.toNat := (by unfold prF; rw [show (i.toNat : Int) = i by omega]; exact h29.1); first | (have z := bK_new (pr := (prF v2 cnt (rb - w9) oo os oc)) hi1 (by rw [← hpr]; exact c_37) (by (by_cases q : i = 0); { exact Or.inl q }; { right; rw [← hpr, ← (hi5 (by omega)).1]; omega }); rw [← hpr] at z; exact ⟨by omega, by omega, h29.2.2, fun h => by omega, fun _ => by rw [show i + 1 - 1 = i by omega, z]; exact ⟨rfl, fun h => ⟨rfl, rfl, by omega, told_copy (h29.2.1 h) h65.1 h65.2⟩⟩⟩) | ((by_cases q : i = 0); { have hb1 := hi4 q; have z : bK (prF v2 cnt (rb - w9) oo os oc) i.toNat = (r, 0) := (by rw [hpr, q]; rfl); exact ⟨by omega, by omega, hi3, fun h => by omega, fun _ => by rw [show i + 1 - 1 = i by omega, z]; exact ⟨by omega, fun h => absurd hb1 h⟩⟩ }; { have z := bK_old (pr := (prF v2 cnt (rb - w9) oo os oc)) (i := i) (by omega) (by rw [← hpr, ← (hi5 (by omega)).1]; omega); exact ⟨by omega, by omega, hi3, fun h => by omega, fun _ => by rw [show i + 1 - 1 = i by omega, z]; exact hi5 (by omega)⟩ })) (by omega)
            · skip
              refine j_aload jb dX7_chooseRow_59 5 rfl ?_
              refine j_aload_n jb dX7_chooseRow_61 1 rfl ?_
              refine j_get jb f_X7_35 dX7_chooseRow_62 0 rfl rfl ?_
              refine j_callV (wr := [(h0, oX7 v0 w0 x0 P0 t0), (v0, oX10 hv cnt (rb - w9) w9), (hv, aI x.g 400 v2), (w0, oX1 wc oo os), (wc, aI x.g 4 oc), (x0, oX1 xc fo3 fs3), (xc, aI x.g 4 c3), (P0, oX6 hO hU hK hX n3 o3 f3), (hO, aL x.g 240 On3), (hU, aI x.g 16 Un3), (hK, aI x.g 16 K3), (hX, aI x.g 16 X3), (hf, aI x.g 400 f)]) jb k_X8_copyFrom i_X8_copyFrom s_X8_copyFrom l_X7_58 (C_X8_copyFrom x.l x.g g0 gk gx t0 tk tx fkd fws fbi fpp i w9 r fp3 gk2 gx2 tk3 tx3 ) 16 10 rfl rfl rfl [16, 17, 18, 12, 13, 14] [0, 1, 2, 3, 4, 5, 6, 7, 8, 9, 10, 11, 15] (by decide) rfl rfl (by decide) (by decide) rfl rfl (Nat.le_of_ble_eq_true rfl) (by decide) dX7_chooseRow_65 (fun v w hp => ?_)
              obtain ⟨gk3, gx3, rfl, rfl, h65⟩ := hp
              refine j_norm (lv' := [(6, .int (iI r)), (0, .ref h0), (1, .ref hf), (2, .int (iI cnt)), (3, .int (iI rb)), (4, .ref g0), (5, .int (iI i))]) (st' := []) (ws' := [(h0, oX7 v0 w0 x0 P0 t0), (v0, oX10 hv cnt (rb - w9) w9), (hv, aI x.g 400 v2), (w0, oX1 wc oo os), (wc, aI x.g 4 oc), (x0, oX1 xc fo3 fs3), (xc, aI x.g 4 c3), (P0, oX6 hO hU hK hX n3 o3 f3), (hO, aL x.g 240 On3), (hU, aI x.g 16 Un3), (hK, aI x.g 16 K3), (hX, aI x.g 16 X3), (t0, oX8 tk tx i w9 r fp3), (tk, aI x.g 16 tk3), (tx, aI x.g 16 tx3), (hf, aI x.g 400 f), (g0, oX8 gk gx i w9 r fp3), (gk, aI x.g 16 gk3), (gx, aI x.g 16 gx3)]) [0, 1, 2, 3, 4, 5, 6] [0, 1, 2, 3, 4, 5, 6, 7, 8, 9, 10, 11, 16, 17, 18, 12, 13, 14, 15] rfl rfl (by decide) rfl ?_
              refine j_iinc (lv' := [(5, .int (iI (i + 1))), (6, .int (iI r)), (0, .ref h0), (1, .ref hf), (2, .int (iI cnt)), (3, .int (iI rb)), (4, .ref g0)]) jb dX7_chooseRow_68 6 rfl (by decide) rfl ?_
              refine j_goto (tgt := 19) jb dX7_chooseRow_71 (by decide) ?_
              refine j_norm (lv' := [(0, .ref h0), (1, .ref hf), (2, .int (iI cnt)), (3, .int (iI rb)), (4, .ref g0), (5, .int (iI (i + 1)))]) (st' := []) (ws' := [(h0, oX7 v0 w0 x0 P0 t0), (v0, oX10 hv cnt (rb - w9) w9), (hv, aI x.g 400 v2), (w0, oX1 wc oo os), (wc, aI x.g 4 oc), (x0, oX1 xc fo3 fs3), (xc, aI x.g 4 c3), (P0, oX6 hO hU hK hX n3 o3 f3), (hO, aL x.g 240 On3), (hU, aI x.g 16 Un3), (hK, aI x.g 16 K3), (hX, aI x.g 16 X3), (t0, oX8 tk tx i w9 r fp3), (tk, aI x.g 16 tk3), (tx, aI x.g 16 tx3), (hf, aI x.g 400 f), (g0, oX8 gk gx i w9 r fp3), (gk, aI x.g 16 gk3), (gx, aI x.g 16 gx3)]) [2, 3, 4, 5, 6, 0] [0, 1, 2, 3, 4, 5, 6, 7, 8, 9, 10, 11, 12, 13, 14, 15, 16, 17, 18] rfl rfl (by decide) rfl ?_
              exact ih19 (i + 1) i w9 r fp3 n3 o3 f3 fo3 fs3 i w9 r fp3 c3 On3 Un3 K3 X3 tk3 tx3 gk3 gx3 (by have hpr : r = (prF v2 cnt (rb - w9) oo os oc) i.toNat := (by unfold prF; rw [show (i.toNat : Int) = i by omega]; exact h29.1); first | (have z := bK_new (pr := (prF v2 cnt (rb - w9) oo os oc)) hi1 (by rw [← hpr]; exact c_37) (by (by_cases q : i = 0); { exact Or.inl q }; { right; rw [← hpr, ← (hi5 (by omega)).1]; omega }); rw [← hpr] at z; exact ⟨by omega, by omega, h29.2.2, fun h => by omega, fun _ => by rw [show i + 1 - 1 = i by omega, z]; exact ⟨rfl, fun h => ⟨rfl, rfl, by omega, told_copy (h29.2.1 h) h65.1 h65.2⟩⟩⟩) | ((by_cases q : i = 0); { have hb1 := hi4 q; have z : bK (prF v2 cnt (rb - w9) oo os oc) i.toNat = (r, 0) := (by rw [hpr, q]; rfl); exact ⟨by omega, by omega, hi3, fun h => by omega, fun _ => by rw [show i + 1 - 1 = i by omega, z]; exact ⟨by omega, fun h => absurd hb1 h⟩⟩ }; { have z := bK_old (pr := (prF v2 cnt (rb - w9) oo os oc)) (i := i) (by omega) (by rw [← hpr, ← (hi5 (by omega)).1]; omega); exact ⟨by omega, by omega, hi3, fun h => by omega, fun _ => by rw [show i + 1 - 1 = i by omega, z]; exact hi5 (by omega)⟩ })) (by omega)
  refine j_norm (lv' := [(0, .ref h0), (1, .ref hf), (2, .int (iI cnt)), (3, .int (iI rb)), (4, .ref g0), (5, .int (iI 0))]) (st' := []) (ws' := [(h0, oX7 v0 w0 x0 P0 t0), (v0, oX10 hv cnt (rb - w9) w9), (hv, aI x.g 400 v2), (w0, oX1 wc oo os), (wc, aI x.g 4 oc), (x0, oX1 xc fo fs), (xc, aI x.g 4 fc), (P0, oX6 hO hU hK hX n1 o1 f1), (hO, aL x.g 240 On), (hU, aI x.g 16 Un), (hK, aI x.g 16 K0), (hX, aI x.g 16 X0), (t0, oX8 tk tx kd ws bi p0), (tk, aI x.g 16 fk0), (tx, aI x.g 16 fx0), (hf, aI x.g 400 f), (g0, oX8 gk gx gkd gws (-1) gp), (gk, aI x.g 16 gk0), (gx, aI x.g 16 gx0)]) [1, 2, 3, 4, 5, 0] [0, 1, 2, 3, 4, 5, 6, 7, 8, 9, 10, 11, 12, 13, 14, 15, 16, 17, 18] rfl rfl (by decide) rfl ?_
  exact L19 _ 0 gkd gws (-1) gp n1 o1 f1 fo fs kd ws bi p0 fc On Un K0 X0 fk0 fx0 gk0 gx0 ⟨by decide, by decide, by decide, fun _ => rfl, fun h => by omega⟩ (Nat.lt_succ_self _)

