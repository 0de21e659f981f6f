set_option maxHeartbeats 4000000 in
set_option maxRecDepth 100000 in
theorem C_X5_keep_1 (l : Launch) (g : GG) (u0 u1 u2 h0 c0 a0 s0 r0 g0 g1 g2 g3 k0 y0 uk1 ux1 : Nat) (n tn bi sb un uch utn ubi kd0 ws0 b0 p0 ukd1 uws1 ub1 up1 : Int) (K0 X0 UK1 UX1 : Int → Int)  : Ctr l g yX5_keep cX5_keep 2 none 2 90 0 0 [.ref u0, .ref h0] [(u0, oX5 u1 u2 un uch utn ubi), (h0, oX2 c0 a0 n 1 0 bi s0 r0 sb), (a0, aF g 4 (rf4 g0 g1 g2 g3)), (g0, oX8 k0 y0 kd0 ws0 b0 p0), (k0, aI g 16 K0), (y0, aI g 16 X0), (u1, oX8 uk1 ux1 ukd1 uws1 ub1 up1), (uk1, aI g 16 UK1), (ux1, aI g 16 UX1)] (fun vv ww => ∃ (UK1a UX1a : Int → Int), vv = none ∧ ww = [(u0, oX5 u1 u2 n 1 0 bi), (h0, oX2 c0 a0 n 1 0 bi s0 r0 sb), (a0, aF g 4 (rf4 g0 g1 g2 g3)), (g0, oX8 k0 y0 kd0 ws0 b0 p0), (k0, aI g 16 K0), (y0, aI g 16 X0), (u1, oX8 uk1 ux1 kd0 ws0 b0 p0), (uk1, aI g 16 UK1a), (ux1, aI g 16 UX1a)] ∧ (∀ j, 0 ≤ j → j < 16 → UK1a j = K0 j) ∧ (∀ j, 0 ≤ j → j < 16 → UX1a j = X0 j)) := by
  refine Ctr.of [(0, .ref u0), (1, .ref h0)] (by decide) (Nat.le_of_ble_eq_true rfl) rfl ?_
  intro x hxl hxg jb jr hin
  subst hxl; subst hxg
  refine j_aload_n jb dX5_keep_0 0 rfl ?_
  refine j_aload_n jb dX5_keep_1 1 rfl ?_
  refine j_get jb f_X5_19 dX5_keep_2 1 rfl rfl ?_
  refine j_put (ws' := [(u0, oX5 u1 u2 n uch utn ubi), (h0, oX2 c0 a0 n 1 0 bi s0 r0 sb), (a0, aF x.g 4 (rf4 g0 g1 g2 g3)), (g0, oX8 k0 y0 kd0 ws0 b0 p0), (k0, aI x.g 16 K0), (y0, aI x.g 16 X0), (u1, oX8 uk1 ux1 ukd1 uws1 ub1 up1), (uk1, aI x.g 16 UK1), (ux1, aI x.g 16 UX1)]) jb f_X5_25 w_X5_2 rfl dX5_keep_5 0 rfl rfl rfl (Nat.le_of_ble_eq_true rfl) rfl ?_
  refine j_aload_n jb dX5_keep_8 0 rfl ?_
  refine j_aload_n jb dX5_keep_9 1 rfl ?_
  refine j_get jb f_X5_26 dX5_keep_10 1 rfl rfl ?_
  refine j_put (ws' := [(u0, oX5 u1 u2 n 1 utn ubi), (h0, oX2 c0 a0 n 1 0 bi s0 r0 sb), (a0, aF x.g 4 (rf4 g0 g1 g2 g3)), (g0, oX8 k0 y0 kd0 ws0 b0 p0), (k0, aI x.g 16 K0), (y0, aI x.g 16 X0), (u1, oX8 uk1 ux1 ukd1 uws1 ub1 up1), (uk1, aI x.g 16 UK1), (ux1, aI x.g 16 UX1)]) jb f_X5_29 w_X5_3 rfl dX5_keep_13 0 rfl rfl rfl (Nat.le_of_ble_eq_true rfl) rfl ?_
  refine j_aload_n jb dX5_keep_16 0 rfl ?_
  refine j_aload_n jb dX5_keep_17 1 rfl ?_
  refine j_get jb f_X5_30 dX5_keep_18 1 rfl rfl ?_
  refine j_put (ws' := [(u0, oX5 u1 u2 n 1 0 ubi), (h0, oX2 c0 a0 n 1 0 bi s0 r0 sb), (a0, aF x.g 4 (rf4 g0 g1 g2 g3)), (g0, oX8 k0 y0 kd0 ws0 b0 p0), (k0, aI x.g 16 K0), (y0, aI x.g 16 X0), (u1, oX8 uk1 ux1 ukd1 uws1 ub1 up1), (uk1, aI x.g 16 UK1), (ux1, aI x.g 16 UX1)]) jb f_X5_33 w_X5_4 rfl dX5_keep_21 0 rfl rfl rfl (Nat.le_of_ble_eq_true rfl) rfl ?_
  refine j_aload_n jb dX5_keep_24 0 rfl ?_
  refine j_aload_n jb dX5_keep_25 1 rfl ?_
  refine j_get jb f_X5_34 dX5_keep_26 1 rfl rfl ?_
  refine j_put (ws' := [(u0, oX5 u1 u2 n 1 0 bi), (h0, oX2 c0 a0 n 1 0 bi s0 r0 sb), (a0, aF x.g 4 (rf4 g0 g1 g2 g3)), (g0, oX8 k0 y0 kd0 ws0 b0 p0), (k0, aI x.g 16 K0), (y0, aI x.g 16 X0), (u1, oX8 uk1 ux1 ukd1 uws1 ub1 up1), (uk1, aI x.g 16 UK1), (ux1, aI x.g 16 UX1)]) jb f_X5_37 w_X5_5 rfl dX5_keep_29 0 rfl rfl rfl (Nat.le_of_ble_eq_true rfl) rfl ?_
  refine j_aload_n jb dX5_keep_32 0 rfl ?_
  refine j_get jb f_X5_10 dX5_keep_33 0 rfl rfl ?_
  refine j_aload_n jb dX5_keep_36 1 rfl ?_
  refine j_get jb f_X5_38 dX5_keep_37 1 rfl rfl ?_
  refine j_getsN jb jb.2.2.2.2.2.2.2.1.1.1 n_X5_42 dX5_keep_40 ?_
  refine j_aload_n jb dX5_keep_43 0 rfl ?_
  refine j_get jb f_X5_33 dX5_keep_44 0 rfl rfl ?_
  refine j_tald jb jb.2.2.2.2.2.2.2.1.1.2 (by decide) (by decide) dX5_keep_47 ?_
  refine j_topi 0 (by decide) ?_
  refine j_aaldF (b := g0) jb dX5_keep_48 2 rfl (by decide) (by decide) rfl ?_
  refine j_callV (wr := [(u0, oX5 u1 u2 n 1 0 bi), (h0, oX2 c0 a0 n 1 0 bi s0 r0 sb), (a0, aF x.g 4 (rf4 g0 g1 g2 g3))]) jb k_X8_copyFrom i_X8_copyFrom s_X8_copyFrom l_X5_48 (C_X8_copyFrom x.l x.g u1 uk1 ux1 g0 k0 y0 ukd1 uws1 ub1 up1 kd0 ws0 b0 p0 UK1 UX1 K0 X0 ) 6 10 rfl rfl rfl [6, 7, 8, 3, 4, 5] [0, 1, 2] (by decide) rfl rfl (by decide) (by decide) rfl rfl (Nat.le_of_ble_eq_true rfl) (by decide) dX5_keep_49 (fun v w hp => ?_)
  obtain ⟨UK1a, UX1a, rfl, rfl, h49⟩ := hp
  refine j_norm (lv' := [(0, .ref u0), (1, .ref h0)]) (st' := []) (ws' := [(u0, oX5 u1 u2 n 1 0 bi), (h0, oX2 c0 a0 n 1 0 bi s0 r0 sb), (a0, aF x.g 4 (rf4 g0 g1 g2 g3)), (g0, oX8 k0 y0 kd0 ws0 b0 p0), (k0, aI x.g 16 K0), (y0, aI x.g 16 X0), (u1, oX8 uk1 ux1 kd0 ws0 b0 p0), (uk1, aI x.g 16 UK1a), (ux1, aI x.g 16 UX1a)]) [0, 1] [0, 1, 2, 6, 7, 8, 3, 4, 5] rfl rfl (by decide) rfl ?_
  refine j_aload_n jb dX5_keep_52 0 rfl ?_
  refine j_get jb f_X5_29 dX5_keep_53 0 rfl rfl ?_
  refine j_iconst jb dX5_keep_56 ?_
  refine j_icmp_ne (tgt := 80) jb dX5_keep_57 (by decide) (by decide) (by decide) (fun _ => ?_) (fun h => absurd h (by decide))
  refine j_norm (lv' := []) (st' := []) (ws' := [(u0, oX5 u1 u2 n 1 0 bi), (h0, oX2 c0 a0 n 1 0 bi s0 r0 sb), (a0, aF x.g 4 (rf4 g0 g1 g2 g3)), (g0, oX8 k0 y0 kd0 ws0 b0 p0), (k0, aI x.g 16 K0), (y0, aI x.g 16 X0), (u1, oX8 uk1 ux1 kd0 ws0 b0 p0), (uk1, aI x.g 16 UK1a), (ux1, aI x.g 16 UX1a)]) [] [0, 1, 2, 3, 4, 5, 6, 7, 8] rfl rfl (by decide) rfl ?_
  exact j_vret jb jr dX5_keep_80 ⟨_, _, rfl, rfl, h49⟩

set_option maxHeartbeats 4000000 in
set_option maxRecDepth 100000 in
theorem C_X5_keep_2 (l : Launch) (g : GG) (u0 u1 u2 h0 c0 a0 s0 r0 g0 g1 g2 g3 k0 y0 k1 y1 k2 y2 k3 y3 uk1 ux1 uk2 ux2 : Nat) (n tn bi sb un uch utn ubi kd0 ws0 b0 p0 kd1 ws1 b1 p1 kd2 ws2 b2 p2 kd3 ws3 b3 p3 ukd1 uws1 ub1 up1 ukd2 uws2 ub2 up2 : Int) (K0 X0 K1 X1 K2 X2 K3 X3 UK1 UX1 UK2 UX2 : Int → Int) (htn : 0 ≤ tn ∧ tn ≤ 3) : Ctr l g yX5_keep cX5_keep 2 none 2 90 0 0 [.ref u0, .ref h0] [(u0, oX5 u1 u2 un uch utn ubi), (h0, oX2 c0 a0 n 2 tn bi s0 r0 sb), (a0, aF g 4 (rf4 g0 g1 g2 g3)), (g0, oX8 k0 y0 kd0 ws0 b0 p0), (k0, aI g 16 K0), (y0, aI g 16 X0), (g1, oX8 k1 y1 kd1 ws1 b1 p1), (k1, aI g 16 K1), (y1, aI g 16 X1), (g2, oX8 k2 y2 kd2 ws2 b2 p2), (k2, aI g 16 K2), (y2, aI g 16 X2), (g3, oX8 k3 y3 kd3 ws3 b3 p3), (k3, aI g 16 K3), (y3, aI g 16 X3), (u1, oX8 uk1 ux1 ukd1 uws1 ub1 up1), (uk1, aI g 16 UK1), (ux1, aI g 16 UX1), (u2, oX8 uk2 ux2 ukd2 uws2 ub2 up2), (uk2, aI g 16 UK2), (ux2, aI g 16 UX2)] (fun vv ww => ∃ (ukd1a uws1a ub1a up1a ukd2a uws2a ub2a up2a : Int) (UK1a UX1a UK2a UX2a : Int → Int), vv = none ∧ ww = [(u0, oX5 u1 u2 n 2 tn bi), (h0, oX2 c0 a0 n 2 tn bi s0 r0 sb), (a0, aF g 4 (rf4 g0 g1 g2 g3)), (g0, oX8 k0 y0 kd0 ws0 b0 p0), (k0, aI g 16 K0), (y0, aI g 16 X0), (g1, oX8 k1 y1 kd1 ws1 b1 p1), (k1, aI g 16 K1), (y1, aI g 16 X1), (g2, oX8 k2 y2 kd2 ws2 b2 p2), (k2, aI g 16 K2), (y2, aI g 16 X2), (g3, oX8 k3 y3 kd3 ws3 b3 p3), (k3, aI g 16 K3), (y3, aI g 16 X3), (u1, oX8 uk1 ux1 ukd1a uws1a ub1a up1a), (uk1, aI g 16 UK1a), (ux1, aI g 16 UX1a), (u2, oX8 uk2 ux2 ukd2a uws2a ub2a up2a), (uk2, aI g 16 UK2a), (ux2, aI g 16 UX2a)] ∧ pk4 (ukd1a = kd0 ∧ uws1a = ws0 ∧ ub1a = b0 ∧ up1a = p0 ∧ (∀ j, 0 ≤ j → j < 16 → UK1a j = K0 j) ∧ (∀ j, 0 ≤ j → j < 16 → UX1a j = X0 j)) (ukd1a = kd1 ∧ uws1a = ws1 ∧ ub1a = b1 ∧ up1a = p1 ∧ (∀ j, 0 ≤ j → j < 16 → UK1a j = K1 j) ∧ (∀ j, 0 ≤ j → j < 16 → UX1a j = X1 j)) (ukd1a = kd2 ∧ uws1a = ws2 ∧ ub1a = b2 ∧ up1a = p2 ∧ (∀ j, 0 ≤ j → j < 16 → UK1a j = K2 j) ∧ (∀ j, 0 ≤ j → j < 16 → UX1a j = X2 j)) (ukd1a = kd3 ∧ uws1a = ws3 ∧ ub1a = b3 ∧ up1a = p3 ∧ (∀ j, 0 ≤ j → j < 16 → UK1a j = K3 j) ∧ (∀ j, 0 ≤ j → j < 16 → UX1a j = X3 j)) (zFirst tn.toNat) ∧ pk4 (ukd2a = kd0 ∧ uws2a = ws0 ∧ ub2a = b0 ∧ up2a = p0 ∧ (∀ j, 0 ≤ j → j < 16 → UK2a j = K0 j) ∧ (∀ j, 0 ≤ j → j < 16 → UX2a j = X0 j)) (ukd2a = kd1 ∧ uws2a = ws1 ∧ ub2a = b1 ∧ up2a = p1 ∧ (∀ j, 0 ≤ j → j < 16 → UK2a j = K1 j) ∧ (∀ j, 0 ≤ j → j < 16 → UX2a j = X1 j)) (ukd2a = kd2 ∧ uws2a = ws2 ∧ ub2a = b2 ∧ up2a = p2 ∧ (∀ j, 0 ≤ j → j < 16 → UK2a j = K2 j) ∧ (∀ j, 0 ≤ j → j < 16 → UX2a j = X2 j)) (ukd2a = kd3 ∧ uws2a = ws3 ∧ ub2a = b3 ∧ up2a = p3 ∧ (∀ j, 0 ≤ j → j < 16 → UK2a j = K3 j) ∧ (∀ j, 0 ≤ j → j < 16 → UX2a j = X3 j)) (zSecond tn.toNat)) := by
  refine Ctr.of [(0, .ref u0), (1, .ref h0)] (by decide) (Nat.le_of_ble_eq_true rfl) rfl ?_
  intro x hxl hxg jb jr hin
  subst hxl; subst hxg
  refine j_aload_n jb dX5_keep_0 0 rfl ?_
  refine j_aload_n jb dX5_keep_1 1 rfl ?_
  refine j_get jb f_X5_19 dX5_keep_2 1 rfl rfl ?_
  refine j_put (ws' := [(u0, oX5 u1 u2 n uch utn ubi), (h0, oX2 c0 a0 n 2 tn bi s0 r0 sb), (a0, aF x.g 4 (rf4 g0 g1 g2 g3)), (g0, oX8 k0 y0 kd0 ws0 b0 p0), (k0, aI x.g 16 K0), (y0, aI x.g 16 X0), (g1, oX8 k1 y1 kd1 ws1 b1 p1), (k1, aI x.g 16 K1), (y1, aI x.g 16 X1), (g2, oX8 k2 y2 kd2 ws2 b2 p2), (k2, aI x.g 16 K2), (y2, aI x.g 16 X2), (g3, oX8 k3 y3 kd3 ws3 b3 p3), (k3, aI x.g 16 K3), (y3, aI x.g 16 X3), (u1, oX8 uk1 ux1 ukd1 uws1 ub1 up1), (uk1, aI x.g 16 UK1), (ux1, aI x.g 16 UX1), (u2, oX8 uk2 ux2 ukd2 uws2 ub2 up2), (uk2, aI x.g 16 UK2), (ux2, aI x.g 16 UX2)]) jb f_X5_25 w_X5_2 rfl dX5_keep_5 0 rfl rfl rfl (Nat.le_of_ble_eq_true rfl) rfl ?_
  refine j_aload_n jb dX5_keep_8 0 rfl ?_
  refine j_aload_n jb dX5_keep_9 1 rfl ?_
  refine j_get jb f_X5_26 dX5_keep_10 1 rfl rfl ?_
  refine j_put (ws' := [(u0, oX5 u1 u2 n 2 utn ubi), (h0, oX2 c0 a0 n 2 tn bi s0 r0 sb), (a0, aF x.g 4 (rf4 g0 g1 g2 g3)), (g0, oX8 k0 y0 kd0 ws0 b0 p0), (k0, aI x.g 16 K0), (y0, aI x.g 16 X0), (g1, oX8 k1 y1 kd1 ws1 b1 p1), (k1, aI x.g 16 K1), (y1, aI x.g 16 X1), (g2, oX8 k2 y2 kd2 ws2 b2 p2), (k2, aI x.g 16 K2), (y2, aI x.g 16 X2), (g3, oX8 k3 y3 kd3 ws3 b3 p3), (k3, aI x.g 16 K3), (y3, aI x.g 16 X3), (u1, oX8 uk1 ux1 ukd1 uws1 ub1 up1), (uk1, aI x.g 16 UK1), (ux1, aI x.g 16 UX1), (u2, oX8 uk2 ux2 ukd2 uws2 ub2 up2), (uk2, aI x.g 16 UK2), (ux2, aI x.g 16 UX2)]) jb f_X5_29 w_X5_3 rfl dX5_keep_13 0 rfl rfl rfl (Nat.le_of_ble_eq_true rfl) rfl ?_
  refine j_aload_n jb dX5_keep_16 0 rfl ?_
  refine j_aload_n jb dX5_keep_17 1 rfl ?_
  refine j_get jb f_X5_30 dX5_keep_18 1 rfl rfl ?_
  refine j_put (ws' := [(u0, oX5 u1 u2 n 2 tn ubi), (h0, oX2 c0 a0 n 2 tn bi s0 r0 sb), (a0, aF x.g 4 (rf4 g0 g1 g2 g3)), (g0, oX8 k0 y0 kd0 ws0 b0 p0), (k0, aI x.g 16 K0), (y0, aI x.g 16 X0), (g1, oX8 k1 y1 kd1 ws1 b1 p1), (k1, aI x.g 16 K1), (y1, aI x.g 16 X1), (g2, oX8 k2 y2 kd2 ws2 b2 p2), (k2, aI x.g 16 K2), (y2, aI x.g 16 X2), (g3, oX8 k3 y3 kd3 ws3 b3 p3), (k3, aI x.g 16 K3), (y3, aI x.g 16 X3), (u1, oX8 uk1 ux1 ukd1 uws1 ub1 up1), (uk1, aI x.g 16 UK1), (ux1, aI x.g 16 UX1), (u2, oX8 uk2 ux2 ukd2 uws2 ub2 up2), (uk2, aI x.g 16 UK2), (ux2, aI x.g 16 UX2)]) jb f_X5_33 w_X5_4 rfl dX5_keep_21 0 rfl rfl rfl (Nat.le_of_ble_eq_true rfl) rfl ?_
  refine j_aload_n jb dX5_keep_24 0 rfl ?_
  refine j_aload_n jb dX5_keep_25 1 rfl ?_
  refine j_get jb f_X5_34 dX5_keep_26 1 rfl rfl ?_
  refine j_put (ws' := [(u0, oX5 u1 u2 n 2 tn bi), (h0, oX2 c0 a0 n 2 tn bi s0 r0 sb), (a0, aF x.g 4 (rf4 g0 g1 g2 g3)), (g0, oX8 k0 y0 kd0 ws0 b0 p0), (k0, aI x.g 16 K0), (y0, aI x.g 16 X0), (g1, oX8 k1 y1 kd1 ws1 b1 p1), (k1, aI x.g 16 K1), (y1, aI x.g 16 X1), (g2, oX8 k2 y2 kd2 ws2 b2 p2), (k2, aI x.g 16 K2), (y2, aI x.g 16 X2), (g3, oX8 k3 y3 kd3 ws3 b3 p3), (k3, aI x.g 16 K3), (y3, aI x.g 16 X3), (u1, oX8 uk1 ux1 ukd1 uws1 ub1 up1), (uk1, aI x.g 16 UK1), (ux1, aI x.g 16 UX1), (u2, oX8 uk2 ux2 ukd2 uws2 ub2 up2), (uk2, aI x.g 16 UK2), (ux2, aI x.g 16 UX2)]) jb f_X5_37 w_X5_5 rfl dX5_keep_29 0 rfl rfl rfl (Nat.le_of_ble_eq_true rfl) rfl ?_
  rcases (show tn = 0 ∨ tn = 1 ∨ tn = 2 ∨ tn = 3 by omega) with e | e | e | e
  · skip
    subst e
    refine j_aload_n jb dX5_keep_32 0 rfl ?_
    refine j_get jb f_X5_10 dX5_keep_33 0 rfl rfl ?_
    refine j_aload_n jb dX5_keep_36 1 rfl ?_
    refine j_get jb f_X5_38 dX5_keep_37 1 rfl rfl ?_
    refine j_getsN jb jb.2.2.2.2.2.2.2.1.1.1 n_X5_42 dX5_keep_40 ?_
    refine j_aload_n jb dX5_keep_43 0 rfl ?_
    refine j_get jb f_X5_33 dX5_keep_44 0 rfl rfl ?_
    refine j_tald jb jb.2.2.2.2.2.2.2.1.1.2 (by decide) (by decide) dX5_keep_47 ?_
    refine j_topi 0 (by decide) ?_
    refine j_aaldF (b := g0) jb dX5_keep_48 2 rfl (by decide) (by decide) rfl ?_
    refine j_callV (wr := [(u0, oX5 u1 u2 n 2 0 bi), (h0, oX2 c0 a0 n 2 0 bi s0 r0 sb), (a0, aF x.g 4 (rf4 g0 g1 g2 g3)), (g1, oX8 k1 y1 kd1 ws1 b1 p1), (k1, aI x.g 16 K1), (y1, aI x.g 16 X1), (g2, oX8 k2 y2 kd2 ws2 b2 p2), (k2, aI x.g 16 K2), (y2, aI x.g 16 X2), (g3, oX8 k3 y3 kd3 ws3 b3 p3), (k3, aI x.g 16 K3), (y3, aI x.g 16 X3), (u2, oX8 uk2 ux2 ukd2 uws2 ub2 up2), (uk2, aI x.g 16 UK2), (ux2, aI x.g 16 UX2)]) jb k_X8_copyFrom i_X8_copyFrom s_X8_copyFrom l_X5_48 (C_X8_copyFrom x.l x.g u1 uk1 ux1 g0 k0 y0 ukd1 uws1 ub1 up1 kd0 ws0 b0 p0 UK1 UX1 K0 X0 ) 15 10 rfl rfl rfl [15, 16, 17, 3, 4, 5] [0, 1, 2, 6, 7, 8, 9, 10, 11, 12, 13, 14, 18, 19, 20] (by decide) rfl rfl (by decide) (by decide) rfl rfl (Nat.le_of_ble_eq_true rfl) (by decide) dX5_keep_49 (fun v w hp => ?_)
    obtain ⟨UK1a, UX1a, rfl, rfl, h49⟩ := hp
    refine j_norm (lv' := [(0, .ref u0), (1, .ref h0)]) (st' := []) (ws' := [(u0, oX5 u1 u2 n 2 0 bi), (h0, oX2 c0 a0 n 2 0 bi s0 r0 sb), (a0, aF x.g 4 (rf4 g0 g1 g2 g3)), (g0, oX8 k0 y0 kd0 ws0 b0 p0), (k0, aI x.g 16 K0), (y0, aI x.g 16 X0), (g1, oX8 k1 y1 kd1 ws1 b1 p1), (k1, aI x.g 16 K1), (y1, aI x.g 16 X1), (g2, oX8 k2 y2 kd2 ws2 b2 p2), (k2, aI x.g 16 K2), (y2, aI x.g 16 X2), (g3, oX8 k3 y3 kd3 ws3 b3 p3), (k3, aI x.g 16 K3), (y3, aI x.g 16 X3), (u1, oX8 uk1 ux1 kd0 ws0 b0 p0), (uk1, aI x.g 16 UK1a), (ux1, aI x.g 16 UX1a), (u2, oX8 uk2 ux2 ukd2 uws2 ub2 up2), (uk2, aI x.g 16 UK2), (ux2, aI x.g 16 UX2)]) [0, 1] [0, 1, 2, 18, 19, 20, 3, 4, 5, 6, 7, 8, 9, 10, 11, 15, 16, 17, 12, 13, 14] rfl rfl (by decide) rfl ?_
    refine j_aload_n jb dX5_keep_52 0 rfl ?_
    refine j_get jb f_X5_29 dX5_keep_53 0 rfl rfl ?_
    refine j_iconst jb dX5_keep_56 ?_
    refine j_icmp_ne (tgt := 80) jb dX5_keep_57 (by decide) (by decide) (by decide) (fun h => absurd h (by decide)) (fun _ => ?_)
    refine j_aload_n jb dX5_keep_60 0 rfl ?_
    refine j_get jb f_X5_16 dX5_keep_61 0 rfl rfl ?_
    refine j_aload_n jb dX5_keep_64 1 rfl ?_
    refine j_get jb f_X5_38 dX5_keep_65 1 rfl rfl ?_
    refine j_getsN jb jb.2.2.2.2.2.2.2.1.2.1.1 n_X5_52 dX5_keep_68 ?_
    refine j_aload_n jb dX5_keep_71 0 rfl ?_
    refine j_get jb f_X5_33 dX5_keep_72 0 rfl rfl ?_
    refine j_tald jb jb.2.2.2.2.2.2.2.1.2.1.2 (by decide) (by decide) dX5_keep_75 ?_
    refine j_topi 1 (by decide) ?_
    refine j_aaldF (b := g1) jb dX5_keep_76 2 rfl (by decide) (by decide) rfl ?_
    refine j_callV (wr := [(u0, oX5 u1 u2 n 2 0 bi), (h0, oX2 c0 a0 n 2 0 bi s0 r0 sb), (a0, aF x.g 4 (rf4 g0 g1 g2 g3)), (g0, oX8 k0 y0 kd0 ws0 b0 p0), (k0, aI x.g 16 K0), (y0, aI x.g 16 X0), (g2, oX8 k2 y2 kd2 ws2 b2 p2), (k2, aI x.g 16 K2), (y2, aI x.g 16 X2), (g3, oX8 k3 y3 kd3 ws3 b3 p3), (k3, aI x.g 16 K3), (y3, aI x.g 16 X3), (u1, oX8 uk1 ux1 kd0 ws0 b0 p0), (uk1, aI x.g 16 UK1a), (ux1, aI x.g 16 UX1a)]) jb k_X8_copyFrom i_X8_copyFrom s_X8_copyFrom l_X5_48 (C_X8_copyFrom x.l x.g u2 uk2 ux2 g1 k1 y1 ukd2 uws2 ub2 up2 kd1 ws1 b1 p1 UK2 UX2 K1 X1 ) 18 10 rfl rfl rfl [18, 19, 20, 6, 7, 8] [0, 1, 2, 3, 4, 5, 9, 10, 11, 12, 13, 14, 15, 16, 17] (by decide) rfl rfl (by decide) (by decide) rfl rfl (Nat.le_of_ble_eq_true rfl) (by decide) dX5_keep_77 (fun v w hp => ?_)
    obtain ⟨UK2a, UX2a, rfl, rfl, h77⟩ := hp
    refine j_norm (lv' := [(0, .ref u0), (1, .ref h0)]) (st' := []) (ws' := [(u0, oX5 u1 u2 n 2 0 bi), (h0, oX2 c0 a0 n 2 0 bi s0 r0 sb), (a0, aF x.g 4 (rf4 g0 g1 g2 g3)), (g0, oX8 k0 y0 kd0 ws0 b0 p0), (k0, aI x.g 16 K0), (y0, aI x.g 16 X0), (g1, oX8 k1 y1 kd1 ws1 b1 p1), (k1, aI x.g 16 K1), (y1, aI x.g 16 X1), (g2, oX8 k2 y2 kd2 ws2 b2 p2), (k2, aI x.g 16 K2), (y2, aI x.g 16 X2), (g3, oX8 k3 y3 kd3 ws3 b3 p3), (k3, aI x.g 16 K3), (y3, aI x.g 16 X3), (u1, oX8 uk1 ux1 kd0 ws0 b0 p0), (uk1, aI x.g 16 UK1a), (ux1, aI x.g 16 UX1a), (u2, oX8 uk2 ux2 kd1 ws1 b1 p1), (uk2, aI x.g 16 UK2a), (ux2, aI x.g 16 UX2a)]) [0, 1] [0, 1, 2, 3, 4, 5, 18, 19, 20, 6, 7, 8, 9, 10, 11, 12, 13, 14, 15, 16, 17] rfl rfl (by decide) rfl ?_
    refine j_norm (lv' := []) (st' := []) (ws' := [(u0, oX5 u1 u2 n 2 0 bi), (h0, oX2 c0 a0 n 2 0 bi s0 r0 sb), (a0, aF x.g 4 (rf4 g0 g1 g2 g3)), (g0, oX8 k0 y0 kd0 ws0 b0 p0), (k0, aI x.g 16 K0), (y0, aI x.g 16 X0), (g1, oX8 k1 y1 kd1 ws1 b1 p1), (k1, aI x.g 16 K1), (y1, aI x.g 16 X1), (g2, oX8 k2 y2 kd2 ws2 b2 p2), (k2, aI x.g 16 K2), (y2, aI x.g 16 X2), (g3, oX8 k3 y3 kd3 ws3 b3 p3), (k3, aI x.g 16 K3), (y3, aI x.g 16 X3), (u1, oX8 uk1 ux1 kd0 ws0 b0 p0), (uk1, aI x.g 16 UK1a), (ux1, aI x.g 16 UX1a), (u2, oX8 uk2 ux2 kd1 ws1 b1 p1), (uk2, aI x.g 16 UK2a), (ux2, aI x.g 16 UX2a)]) [] [0, 1, 2, 3, 4, 5, 6, 7, 8, 9, 10, 11, 12, 13, 14, 15, 16, 17, 18, 19, 20] rfl rfl (by decide) rfl ?_
    exact j_vret jb jr dX5_keep_80 ⟨_, _, _, _, _, _, _, _, _, _, _, _, rfl, rfl, ⟨⟨rfl, rfl, rfl, rfl, h49⟩, ⟨rfl, rfl, rfl, rfl, h77⟩⟩⟩
  · skip
    subst e
    refine j_aload_n jb dX5_keep_32 0 rfl ?_
    refine j_get jb f_X5_10 dX5_keep_33 0 rfl rfl ?_
    refine j_aload_n jb dX5_keep_36 1 rfl ?_
    refine j_get jb f_X5_38 dX5_keep_37 1 rfl rfl ?_
    refine j_getsN jb jb.2.2.2.2.2.2.2.1.1.1 n_X5_42 dX5_keep_40 ?_
    refine j_aload_n jb dX5_keep_43 0 rfl ?_
    refine j_get jb f_X5_33 dX5_keep_44 0 rfl rfl ?_
    refine j_tald jb jb.2.2.2.2.2.2.2.1.1.2 (by decide) (by decide) dX5_keep_47 ?_
    refine j_topi 0 (by decide) ?_
    refine j_aaldF (b := g0) jb dX5_keep_48 2 rfl (by decide) (by decide) rfl ?_
    refine j_callV (wr := [(u0, oX5 u1 u2 n 2 1 bi), (h0, oX2 c0 a0 n 2 1 bi s0 r0 sb), (a0, aF x.g 4 (rf4 g0 g1 g2 g3)), (g1, oX8 k1 y1 kd1 ws1 b1 p1), (k1, aI x.g 16 K1), (y1, aI x.g 16 X1), (g2, oX8 k2 y2 kd2 ws2 b2 p2), (k2, aI x.g 16 K2), (y2, aI x.g 16 X2), (g3, oX8 k3 y3 kd3 ws3 b3 p3), (k3, aI x.g 16 K3), (y3, aI x.g 16 X3), (u2, oX8 uk2 ux2 ukd2 uws2 ub2 up2), (uk2, aI x.g 16 UK2), (ux2, aI x.g 16 UX2)]) jb k_X8_copyFrom i_X8_copyFrom s_X8_copyFrom l_X5_48 (C_X8_copyFrom x.l x.g u1 uk1 ux1 g0 k0 y0 ukd1 uws1 ub1 up1 kd0 ws0 b0 p0 UK1 UX1 K0 X0 ) 15 10 rfl rfl rfl [15, 16, 17, 3, 4, 5] [0, 1, 2, 6, 7, 8, 9, 10, 11, 12, 13, 14, 18, 19, 20] (by decide) rfl rfl (by decide) (by decide) rfl rfl (Nat.le_of_ble_eq_true rfl) (by decide) dX5_keep_49 (fun v w hp => ?_)
    obtain ⟨UK1a, UX1a, rfl, rfl, h49⟩ := hp
    refine j_norm (lv' := [(0, .ref u0), (1, .ref h0)]) (st' := []) (ws' := [(u0, oX5 u1 u2 n 2 1 bi), (h0, oX2 c0 a0 n 2 1 bi s0 r0 sb), (a0, aF x.g 4 (rf4 g0 g1 g2 g3)), (g0, oX8 k0 y0 kd0 ws0 b0 p0), (k0, aI x.g 16 K0), (y0, aI x.g 16 X0), (g1, oX8 k1 y1 kd1 ws1 b1 p1), (k1, aI x.g 16 K1), (y1, aI x.g 16 X1), (g2, oX8 k2 y2 kd2 ws2 b2 p2), (k2, aI x.g 16 K2), (y2, aI x.g 16 X2), (g3, oX8 k3 y3 kd3 ws3 b3 p3), (k3, aI x.g 16 K3), (y3, aI x.g 16 X3), (u1, oX8 uk1 ux1 kd0 ws0 b0 p0), (uk1, aI x.g 16 UK1a), (ux1, aI x.g 16 UX1a), (u2, oX8 uk2 ux2 ukd2 uws2 ub2 up2), (uk2, aI x.g 16 UK2), (ux2, aI x.g 16 UX2)]) [0, 1] [0, 1, 2, 18, 19, 20, 3, 4, 5, 6, 7, 8, 9, 10, 11, 15, 16, 17, 12, 13, 14] rfl rfl (by decide) rfl ?_
    refine j_aload_n jb dX5_keep_52 0 rfl ?_
    refine j_get jb f_X5_29 dX5_keep_53 0 rfl rfl ?_
    refine j_iconst jb dX5_keep_56 ?_
    refine j_icmp_ne (tgt := 80) jb dX5_keep_57 (by decide) (by decide) (by decide) (fun h => absurd h (by decide)) (fun _ => ?_)
    refine j_aload_n jb dX5_keep_60 0 rfl ?_
    refine j_get jb f_X5_16 dX5_keep_61 0 rfl rfl ?_
    refine j_aload_n jb dX5_keep_64 1 rfl ?_
    refine j_get jb f_X5_38 dX5_keep_65 1 rfl rfl ?_
    refine j_getsN jb jb.2.2.2.2.2.2.2.1.2.1.1 n_X5_52 dX5_keep_68 ?_
    refine j_aload_n jb dX5_keep_71 0 rfl ?_
    refine j_get jb f_X5_33 dX5_keep_72 0 rfl rfl ?_
    refine j_tald jb jb.2.2.2.2.2.2.2.1.2.1.2 (by decide) (by decide) dX5_keep_75 ?_
    refine j_topi 2 (by decide) ?_
    refine j_aaldF (b := g2) jb dX5_keep_76 2 rfl (by decide) (by decide) rfl ?_
    refine j_callV (wr := [(u0, oX5 u1 u2 n 2 1 bi), (h0, oX2 c0 a0 n 2 1 bi s0 r0 sb), (a0, aF x.g 4 (rf4 g0 g1 g2 g3)), (g0, oX8 k0 y0 kd0 ws0 b0 p0), (k0, aI x.g 16 K0), (y0, aI x.g 16 X0), (g1, oX8 k1 y1 kd1 ws1 b1 p1), (k1, aI x.g 16 K1), (y1, aI x.g 16 X1), (g3, oX8 k3 y3 kd3 ws3 b3 p3), (k3, aI x.g 16 K3), (y3, aI x.g 16 X3), (u1, oX8 uk1 ux1 kd0 ws0 b0 p0), (uk1, aI x.g 16 UK1a), (ux1, aI x.g 16 UX1a)]) jb k_X8_copyFrom i_X8_copyFrom s_X8_copyFrom l_X5_48 (C_X8_copyFrom x.l x.g u2 uk2 ux2 g2 k2 y2 ukd2 uws2 ub2 up2 kd2 ws2 b2 p2 UK2 UX2 K2 X2 ) 18 10 rfl rfl rfl [18, 19, 20, 9, 10, 11] [0, 1, 2, 3, 4, 5, 6, 7, 8, 12, 13, 14, 15, 16, 17] (by decide) rfl rfl (by decide) (by decide) rfl rfl (Nat.le_of_ble_eq_true rfl) (by decide) dX5_keep_77 (fun v w hp => ?_)
    obtain ⟨UK2a, UX2a, rfl, rfl, h77⟩ := hp
    refine j_norm (lv' := [(0, .ref u0), (1, .ref h0)]) (st' := []) (ws' := [(u0, oX5 u1 u2 n 2 1 bi), (h0, oX2 c0 a0 n 2 1 bi s0 r0 sb), (a0, aF x.g 4 (rf4 g0 g1 g2 g3)), (g0, oX8 k0 y0 kd0 ws0 b0 p0), (k0, aI x.g 16 K0), (y0, aI x.g 16 X0), (g1, oX8 k1 y1 kd1 ws1 b1 p1), (k1, aI x.g 16 K1), (y1, aI x.g 16 X1), (g2, oX8 k2 y2 kd2 ws2 b2 p2), (k2, aI x.g 16 K2), (y2, aI x.g 16 X2), (g3, oX8 k3 y3 kd3 ws3 b3 p3), (k3, aI x.g 16 K3), (y3, aI x.g 16 X3), (u1, oX8 uk1 ux1 kd0 ws0 b0 p0), (uk1, aI x.g 16 UK1a), (ux1, aI x.g 16 UX1a), (u2, oX8 uk2 ux2 kd2 ws2 b2 p2), (uk2, aI x.g 16 UK2a), (ux2, aI x.g 16 UX2a)]) [0, 1] [0, 1, 2, 3, 4, 5, 6, 7, 8, 18, 19, 20, 9, 10, 11, 12, 13, 14, 15, 16, 17] rfl rfl (by decide) rfl ?_
    refine j_norm (lv' := []) (st' := []) (ws' := [(u0, oX5 u1 u2 n 2 1 bi), (h0, oX2 c0 a0 n 2 1 bi s0 r0 sb), (a0, aF x.g 4 (rf4 g0 g1 g2 g3)), (g0, oX8 k0 y0 kd0 ws0 b0 p0), (k0, aI x.g 16 K0), (y0, aI x.g 16 X0), (g1, oX8 k1 y1 kd1 ws1 b1 p1), (k1, aI x.g 16 K1), (y1, aI x.g 16 X1), (g2, oX8 k2 y2 kd2 ws2 b2 p2), (k2, aI x.g 16 K2), (y2, aI x.g 16 X2), (g3, oX8 k3 y3 kd3 ws3 b3 p3), (k3, aI x.g 16 K3), (y3, aI x.g 16 X3), (u1, oX8 uk1 ux1 kd0 ws0 b0 p0), (uk1, aI x.g 16 UK1a), (ux1, aI x.g 16 UX1a), (u2, oX8 uk2 ux2 kd2 ws2 b2 p2), (uk2, aI x.g 16 UK2a), (ux2, aI x.g 16 UX2a)]) [] [0, 1, 2, 3, 4, 5, 6, 7, 8, 9, 10, 11, 12, 13, 14, 15, 16, 17, 18, 19, 20] rfl rfl (by decide) rfl ?_
    exact j_vret jb jr dX5_keep_80 ⟨_, _, _, _, _, _, _, _, _, _, _, _, rfl, rfl, ⟨⟨rfl, rfl, rfl, rfl, h49⟩, ⟨rfl, rfl, rfl, rfl, h77⟩⟩⟩
  · skip
    subst e
    refine j_aload_n jb dX5_keep_32 0 rfl ?_
    refine j_get jb f_X5_10 dX5_keep_33 0 rfl rfl ?_
    refine j_aload_n jb dX5_keep_36 1 rfl ?_
    refine j_get jb f_X5_38 dX5_keep_37 1 rfl rfl ?_
    refine j_getsN jb jb.2.2.2.2.2.2.2.1.1.1 n_X5_42 dX5_keep_40 ?_
    refine j_aload_n jb dX5_keep_43 0 rfl ?_
    refine j_get jb f_X5_33 dX5_keep_44 0 rfl rfl ?_
    refine j_tald jb jb.2.2.2.2.2.2.2.1.1.2 (by decide) (by decide) dX5_keep_47 ?_
    refine j_topi 2 (by decide) ?_
    refine j_aaldF (b := g2) jb dX5_keep_48 2 rfl (by decide) (by decide) rfl ?_
    refine j_callV (wr := [(u0, oX5 u1 u2 n 2 2 bi), (h0, oX2 c0 a0 n 2 2 bi s0 r0 sb), (a0, aF x.g 4 (rf4 g0 g1 g2 g3)), (g0, oX8 k0 y0 kd0 ws0 b0 p0), (k0, aI x.g 16 K0), (y0, aI x.g 16 X0), (g1, oX8 k1 y1 kd1 ws1 b1 p1), (k1, aI x.g 16 K1), (y1, aI x.g 16 X1), (g3, oX8 k3 y3 kd3 ws3 b3 p3), (k3, aI x.g 16 K3), (y3, aI x.g 16 X3), (u2, oX8 uk2 ux2 ukd2 uws2 ub2 up2), (uk2, aI x.g 16 UK2), (ux2, aI x.g 16 UX2)]) jb k_X8_copyFrom i_X8_copyFrom s_X8_copyFrom l_X5_48 (C_X8_copyFrom x.l x.g u1 uk1 ux1 g2 k2 y2 ukd1 uws1 ub1 up1 kd2 ws2 b2 p2 UK1 UX1 K2 X2 ) 15 10 rfl rfl rfl [15, 16, 17, 9, 10, 11] [0, 1, 2, 3, 4, 5, 6, 7, 8, 12, 13, 14, 18, 19, 20] (by decide) rfl rfl (by decide) (by decide) rfl rfl (Nat.le_of_ble_eq_true rfl) (by decide) dX5_keep_49 (fun v w hp => ?_)
    obtain ⟨UK1a, UX1a, rfl, rfl, h49⟩ := hp
    refine j_norm (lv' := [(0, .ref u0), (1, .ref h0)]) (st' := []) (ws' := [(u0, oX5 u1 u2 n 2 2 bi), (h0, oX2 c0 a0 n 2 2 bi s0 r0 sb), (a0, aF x.g 4 (rf4 g0 g1 g2 g3)), (g0, oX8 k0 y0 kd0 ws0 b0 p0), (k0, aI x.g 16 K0), (y0, aI x.g 16 X0), (g1, oX8 k1 y1 kd1 ws1 b1 p1), (k1, aI x.g 16 K1), (y1, aI x.g 16 X1), (g2, oX8 k2 y2 kd2 ws2 b2 p2), (k2, aI x.g 16 K2), (y2, aI x.g 16 X2), (g3, oX8 k3 y3 kd3 ws3 b3 p3), (k3, aI x.g 16 K3), (y3, aI x.g 16 X3), (u1, oX8 uk1 ux1 kd2 ws2 b2 p2), (uk1, aI x.g 16 UK1a), (ux1, aI x.g 16 UX1a), (u2, oX8 uk2 ux2 ukd2 uws2 ub2 up2), (uk2, aI x.g 16 UK2), (ux2, aI x.g 16 UX2)]) [0, 1] [0, 1, 2, 3, 4, 5, 6, 7, 8, 18, 19, 20, 9, 10, 11, 15, 16, 17, 12, 13, 14] rfl rfl (by decide) rfl ?_
    refine j_aload_n jb dX5_keep_52 0 rfl ?_
    refine j_get jb f_X5_29 dX5_keep_53 0 rfl rfl ?_
    refine j_iconst jb dX5_keep_56 ?_
    refine j_icmp_ne (tgt := 80) jb dX5_keep_57 (by decide) (by decide) (by decide) (fun h => absurd h (by decide)) (fun _ => ?_)
    refine j_aload_n jb dX5_keep_60 0 rfl ?_
    refine j_get jb f_X5_16 dX5_keep_61 0 rfl rfl ?_
    refine j_aload_n jb dX5_keep_64 1 rfl ?_
    refine j_get jb f_X5_38 dX5_keep_65 1 rfl rfl ?_
    refine j_getsN jb jb.2.2.2.2.2.2.2.1.2.1.1 n_X5_52 dX5_keep_68 ?_
    refine j_aload_n jb dX5_keep_71 0 rfl ?_
    refine j_get jb f_X5_33 dX5_keep_72 0 rfl rfl ?_
    refine j_tald jb jb.2.2.2.2.2.2.2.1.2.1.2 (by decide) (by decide) dX5_keep_75 ?_
    refine j_topi 1 (by decide) ?_
    refine j_aaldF (b := g1) jb dX5_keep_76 2 rfl (by decide) (by decide) rfl ?_
    refine j_callV (wr := [(u0, oX5 u1 u2 n 2 2 bi), (h0, oX2 c0 a0 n 2 2 bi s0 r0 sb), (a0, aF x.g 4 (rf4 g0 g1 g2 g3)), (g0, oX8 k0 y0 kd0 ws0 b0 p0), (k0, aI x.g 16 K0), (y0, aI x.g 16 X0), (g2, oX8 k2 y2 kd2 ws2 b2 p2), (k2, aI x.g 16 K2), (y2, aI x.g 16 X2), (g3, oX8 k3 y3 kd3 ws3 b3 p3), (k3, aI x.g 16 K3), (y3, aI x.g 16 X3), (u1, oX8 uk1 ux1 kd2 ws2 b2 p2), (uk1, aI x.g 16 UK1a), (ux1, aI x.g 16 UX1a)]) jb k_X8_copyFrom i_X8_copyFrom s_X8_copyFrom l_X5_48 (C_X8_copyFrom x.l x.g u2 uk2 ux2 g1 k1 y1 ukd2 uws2 ub2 up2 kd1 ws1 b1 p1 UK2 UX2 K1 X1 ) 18 10 rfl rfl rfl [18, 19, 20, 6, 7, 8] [0, 1, 2, 3, 4, 5, 9, 10, 11, 12, 13, 14, 15, 16, 17] (by decide) rfl rfl (by decide) (by decide) rfl rfl (Nat.le_of_ble_eq_true rfl) (by decide) dX5_keep_77 (fun v w hp => ?_)
    obtain ⟨UK2a, UX2a, rfl, rfl, h77⟩ := hp
    refine j_norm (lv' := [(0, .ref u0), (1, .ref h0)]) (st' := []) (ws' := [(u0, oX5 u1 u2 n 2 2 bi), (h0, oX2 c0 a0 n 2 2 bi s0 r0 sb), (a0, aF x.g 4 (rf4 g0 g1 g2 g3)), (g0, oX8 k0 y0 kd0 ws0 b0 p0), (k0, aI x.g 16 K0), (y0, aI x.g 16 X0), (g1, oX8 k1 y1 kd1 ws1 b1 p1), (k1, aI x.g 16 K1), (y1, aI x.g 16 X1), (g2, oX8 k2 y2 kd2 ws2 b2 p2), (k2, aI x.g 16 K2), (y2, aI x.g 16 X2), (g3, oX8 k3 y3 kd3 ws3 b3 p3), (k3, aI x.g 16 K3), (y3, aI x.g 16 X3), (u1, oX8 uk1 ux1 kd2 ws2 b2 p2), (uk1, aI x.g 16 UK1a), (ux1, aI x.g 16 UX1a), (u2, oX8 uk2 ux2 kd1 ws1 b1 p1), (uk2, aI x.g 16 UK2a), (ux2, aI x.g 16 UX2a)]) [0, 1] [0, 1, 2, 3, 4, 5, 18, 19, 20, 6, 7, 8, 9, 10, 11, 12, 13, 14, 15, 16, 17] rfl rfl (by decide) rfl ?_
    refine j_norm (lv' := []) (st' := []) (ws' := [(u0, oX5 u1 u2 n 2 2 bi), (h0, oX2 c0 a0 n 2 2 bi s0 r0 sb), (a0, aF x.g 4 (rf4 g0 g1 g2 g3)), (g0, oX8 k0 y0 kd0 ws0 b0 p0), (k0, aI x.g 16 K0), (y0, aI x.g 16 X0), (g1, oX8 k1 y1 kd1 ws1 b1 p1), (k1, aI x.g 16 K1), (y1, aI x.g 16 X1), (g2, oX8 k2 y2 kd2 ws2 b2 p2), (k2, aI x.g 16 K2), (y2, aI x.g 16 X2), (g3, oX8 k3 y3 kd3 ws3 b3 p3), (k3, aI x.g 16 K3), (y3, aI x.g 16 X3), (u1, oX8 uk1 ux1 kd2 ws2 b2 p2), (uk1, aI x.g 16 UK1a), (ux1, aI x.g 16 UX1a), (u2, oX8 uk2 ux2 kd1 ws1 b1 p1), (uk2, aI x.g 16 UK2a), (ux2, aI x.g 16 UX2a)]) [] [0, 1, 2, 3, 4, 5, 6, 7, 8, 9, 10, 11, 12, 13, 14, 15, 16, 17, 18, 19, 20] rfl rfl (by decide) rfl ?_
    exact j_vret jb jr dX5_keep_80 ⟨_, _, _, _, _, _, _, _, _, _, _, _, rfl, rfl, ⟨⟨rfl, rfl, rfl, rfl, h49⟩, ⟨rfl, rfl, rfl, rfl, h77⟩⟩⟩
  · skip
    subst e
    refine j_aload_n jb dX5_keep_32 0 rfl ?_
    refine j_get jb f_X5_10 dX5_keep_33 0 rfl rfl ?_
    refine j_aload_n jb dX5_keep_36 1 rfl ?_
    refine j_get jb f_X5_38 dX5_keep_37 1 rfl rfl ?_
    refine j_getsN jb jb.2.2.2.2.2.2.2.1.1.1 n_X5_42 dX5_keep_40 ?_
    refine j_aload_n jb dX5_keep_43 0 rfl ?_
    refine j_get jb f_X5_33 dX5_keep_44 0 rfl rfl ?_
    refine j_tald jb jb.2.2.2.2.2.2.2.1.1.2 (by decide) (by decide) dX5_keep_47 ?_
    refine j_topi 3 (by decide) ?_
    refine j_aaldF (b := g3) jb dX5_keep_48 2 rfl (by decide) (by decide) rfl ?_
    refine j_callV (wr := [(u0, oX5 u1 u2 n 2 3 bi), (h0, oX2 c0 a0 n 2 3 bi s0 r0 sb), (a0, aF x.g 4 (rf4 g0 g1 g2 g3)), (g0, oX8 k0 y0 kd0 ws0 b0 p0), (k0, aI x.g 16 K0), (y0, aI x.g 16 X0), (g1, oX8 k1 y1 kd1 ws1 b1 p1), (k1, aI x.g 16 K1), (y1, aI x.g 16 X1), (g2, oX8 k2 y2 kd2 ws2 b2 p2), (k2, aI x.g 16 K2), (y2, aI x.g 16 X2), (u2, oX8 uk2 ux2 ukd2 uws2 ub2 up2), (uk2, aI x.g 16 UK2), (ux2, aI x.g 16 UX2)]) jb k_X8_copyFrom i_X8_copyFrom s_X8_copyFrom l_X5_48 (C_X8_copyFrom x.l x.g u1 uk1 ux1 g3 k3 y3 ukd1 uws1 ub1 up1 kd3 ws3 b3 p3 UK1 UX1 K3 X3 ) 15 10 rfl rfl rfl [15, 16, 17, 12, 13, 14] [0, 1, 2, 3, 4, 5, 6, 7, 8, 9, 10, 11, 18, 19, 20] (by decide) rfl rfl (by decide) (by decide) rfl rfl (Nat.le_of_ble_eq_true rfl) (by decide) dX5_keep_49 (fun v w hp => ?_)
    obtain ⟨UK1a, UX1a, rfl, rfl, h49⟩ := hp
    refine j_norm (lv' := [(0, .ref u0), (1, .ref h0)]) (st' := []) (ws' := [(u0, oX5 u1 u2 n 2 3 bi), (h0, oX2 c0 a0 n 2 3 bi s0 r0 sb), (a0, aF x.g 4 (rf4 g0 g1 g2 g3)), (g0, oX8 k0 y0 kd0 ws0 b0 p0), (k0, aI x.g 16 K0), (y0, aI x.g 16 X0), (g1, oX8 k1 y1 kd1 ws1 b1 p1), (k1, aI x.g 16 K1), (y1, aI x.g 16 X1), (g2, oX8 k2 y2 kd2 ws2 b2 p2), (k2, aI x.g 16 K2), (y2, aI x.g 16 X2), (g3, oX8 k3 y3 kd3 ws3 b3 p3), (k3, aI x.g 16 K3), (y3, aI x.g 16 X3), (u1, oX8 uk1 ux1 kd3 ws3 b3 p3), (uk1, aI x.g 16 UK1a), (ux1, aI x.g 16 UX1a), (u2, oX8 uk2 ux2 ukd2 uws2 ub2 up2), (uk2, aI x.g 16 UK2), (ux2, aI x.g 16 UX2)]) [0, 1] [0, 1, 2, 3, 4, 5, 6, 7, 8, 9, 10, 11, 18, 19, 20, 15, 16, 17, 12, 13, 14] rfl rfl (by decide) rfl ?_
    refine j_aload_n jb dX5_keep_52 0 rfl ?_
    refine j_get jb f_X5_29 dX5_keep_53 0 rfl rfl ?_
    refine j_iconst jb dX5_keep_56 ?_
    refine j_icmp_ne (tgt := 80) jb dX5_keep_57 (by decide) (by decide) (by decide) (fun h => absurd h (by decide)) (fun _ => ?_)
    refine j_aload_n jb dX5_keep_60 0 rfl ?_
    refine j_get jb f_X5_16 dX5_keep_61 0 rfl rfl ?_
    refine j_aload_n jb dX5_keep_64 1 rfl ?_
    refine j_get jb f_X5_38 dX5_keep_65 1 rfl rfl ?_
    refine j_getsN jb jb.2.2.2.2.2.2.2.1.2.1.1 n_X5_52 dX5_keep_68 ?_
    refine j_aload_n jb dX5_keep_71 0 rfl ?_
    refine j_get jb f_X5_33 dX5_keep_72 0 rfl rfl ?_
    refine j_tald jb jb.2.2.2.2.2.2.2.1.2.1.2 (by decide) (by decide) dX5_keep_75 ?_
    refine j_topi 2 (by decide) ?_
    refine j_aaldF (b := g2) jb dX5_keep_76 2 rfl (by decide) (by decide) rfl ?_
    refine j_callV (wr := [(u0, oX5 u1 u2 n 2 3 bi), (h0, oX2 c0 a0 n 2 3 bi s0 r0 sb), (a0, aF x.g 4 (rf4 g0 g1 g2 g3)), (g0, oX8 k0 y0 kd0 ws0 b0 p0), (k0, aI x.g 16 K0), (y0, aI x.g 16 X0), (g1, oX8 k1 y1 kd1 ws1 b1 p1), (k1, aI x.g 16 K1), (y1, aI x.g 16 X1), (g3, oX8 k3 y3 kd3 ws3 b3 p3), (k3, aI x.g 16 K3), (y3, aI x.g 16 X3), (u1, oX8 uk1 ux1 kd3 ws3 b3 p3), (uk1, aI x.g 16 UK1a), (ux1, aI x.g 16 UX1a)]) jb k_X8_copyFrom i_X8_copyFrom s_X8_copyFrom l_X5_48 (C_X8_copyFrom x.l x.g u2 uk2 ux2 g2 k2 y2 ukd2 uws2 ub2 up2 kd2 ws2 b2 p2 UK2 UX2 K2 X2 ) 18 10 rfl rfl rfl [18, 19, 20, 9, 10, 11] [0, 1, 2, 3, 4, 5, 6, 7, 8, 12, 13, 14, 15, 16, 17] (by decide) rfl rfl (by decide) (by decide) rfl rfl (Nat.le_of_ble_eq_true rfl) (by decide) dX5_keep_77 (fun v w hp => ?_)
    obtain ⟨UK2a, UX2a, rfl, rfl, h77⟩ := hp
    refine j_norm (lv' := [(0, .ref u0), (1, .ref h0)]) (st' := []) (ws' := [(u0, oX5 u1 u2 n 2 3 bi), (h0, oX2 c0 a0 n 2 3 bi s0 r0 sb), (a0, aF x.g 4 (rf4 g0 g1 g2 g3)), (g0, oX8 k0 y0 kd0 ws0 b0 p0), (k0, aI x.g 16 K0), (y0, aI x.g 16 X0), (g1, oX8 k1 y1 kd1 ws1 b1 p1), (k1, aI x.g 16 K1), (y1, aI x.g 16 X1), (g2, oX8 k2 y2 kd2 ws2 b2 p2), (k2, aI x.g 16 K2), (y2, aI x.g 16 X2), (g3, oX8 k3 y3 kd3 ws3 b3 p3), (k3, aI x.g 16 K3), (y3, aI x.g 16 X3), (u1, oX8 uk1 ux1 kd3 ws3 b3 p3), (uk1, aI x.g 16 UK1a), (ux1, aI x.g 16 UX1a), (u2, oX8 uk2 ux2 kd2 ws2 b2 p2), (uk2, aI x.g 16 UK2a), (ux2, aI x.g 16 UX2a)]) [0, 1] [0, 1, 2, 3, 4, 5, 6, 7, 8, 18, 19, 20, 9, 10, 11, 12, 13, 14, 15, 16, 17] rfl rfl (by decide) rfl ?_
    refine j_norm (lv' := []) (st' := []) (ws' := [(u0, oX5 u1 u2 n 2 3 bi), (h0, oX2 c0 a0 n 2 3 bi s0 r0 sb), (a0, aF x.g 4 (rf4 g0 g1 g2 g3)), (g0, oX8 k0 y0 kd0 ws0 b0 p0), (k0, aI x.g 16 K0), (y0, aI x.g 16 X0), (g1, oX8 k1 y1 kd1 ws1 b1 p1), (k1, aI x.g 16 K1), (y1, aI x.g 16 X1), (g2, oX8 k2 y2 kd2 ws2 b2 p2), (k2, aI x.g 16 K2), (y2, aI x.g 16 X2), (g3, oX8 k3 y3 kd3 ws3 b3 p3), (k3, aI x.g 16 K3), (y3, aI x.g 16 X3), (u1, oX8 uk1 ux1 kd3 ws3 b3 p3), (uk1, aI x.g 16 UK1a), (ux1, aI x.g 16 UX1a), (u2, oX8 uk2 ux2 kd2 ws2 b2 p2), (uk2, aI x.g 16 UK2a), (ux2, aI x.g 16 UX2a)]) [] [0, 1, 2, 3, 4, 5, 6, 7, 8, 9, 10, 11, 12, 13, 14, 15, 16, 17, 18, 19, 20] rfl rfl (by decide) rfl ?_
    exact j_vret jb jr dX5_keep_80 ⟨_, _, _, _, _, _, _, _, _, _, _, _, rfl, rfl, ⟨⟨rfl, rfl, rfl, rfl, h49⟩, ⟨rfl, rfl, rfl, rfl, h77⟩⟩⟩

set_option maxHeartbeats 4000000 in
set_option maxRecDepth 100000 in
theorem C_X4_unturn (l : Launch) (g : GG) (h0 r0 k0 q0 q1 : Nat) (n ch tn sb bh : Int) (f0 f1 : Int → Int) (hn : 0 ≤ n ∧ n ≤ 400) (ht : 0 ≤ tn ∧ tn ≤ 3) (hsb : 1 ≤ sb ∧ sb ≤ 16) (hf : ¬ tn = 0 → ∀ j, 0 ≤ j → j < n → (-65536 ≤ f0 j ∧ f0 j ≤ 65536) ∧ (-65536 ≤ f1 j ∧ f1 j ≤ 65536)) : Ctr l g yX4_unturn cX4_unturn 6 (some .boolean) 1 30 0 0 [.ref h0] [(h0, oX4 r0 k0 n ch tn sb bh), (r0, aG g 2 (rf2 q0 q1)), (q0, aI g 400 f0), (q1, aI g 400 f1)] (fun vv ww => ∃ (e0 e1 : Int → Int), vv = some (.int (iI (b2i (tn = 0 ∨ uok tn sb f0 f1 n.toNat = true)))) ∧ ww = [(h0, oX4 r0 k0 n ch tn sb bh), (r0, aG g 2 (rf2 q0 q1)), (q0, aI g 400 e0), (q1, aI g 400 e1)] ∧ ((tn = 0 ∨ uok tn sb f0 f1 n.toNat = true) → ∀ j, 0 ≤ j → j < n → e0 j = utA tn (f0 j) (f1 j) ∧ e1 j = utB tn (f0 j) (f1 j))) := by
  refine Ctr.of [(0, .ref h0)] (by decide) (Nat.le_of_ble_eq_true rfl) rfl ?_
  intro x hxl hxg jb jr hin
  subst hxl; subst hxg
  refine j_iconst jb dX4_unturn_0 ?_
  refine j_istore_n (lv' := [(1, .int (iI 0)), (0, .ref h0)]) jb dX4_unturn_1 rfl (by decide) rfl ?_
  have L2 : ∀ (fu : Nat) (i : Int) (e0 e1 : Int → Int), (0 ≤ i ∧ i ≤ n ∧ (∀ j, 0 ≤ j → j < i → e0 j = utA tn (f0 j) (f1 j) ∧ e1 j = utB tn (f0 j) (f1 j)) ∧ (∀ j, i ≤ j → e0 j = f0 j ∧ e1 j = f1 j) ∧ uok tn sb f0 f1 i.toNat = true) → (n - i).toNat < fu → JW x 0 0 2 [(0, .ref h0), (1, .int (iI i))] [] [(h0, oX4 r0 k0 n ch tn sb bh), (r0, aG x.g 2 (rf2 q0 q1)), (q0, aI x.g 400 e0), (q1, aI x.g 400 e1)] := by
    intro fu
    induction fu with
    | zero => intro i e0 e1 _ hm; exact absurd hm (by omega)
    | succ fu ih =>
      intro i e0 e1 ⟨hi1, hi2, hi3, hi4, hi5⟩ hm2
      have ih2 := ih
      clear ih
      refine j_iload_n jb dX4_unturn_2 1 rfl ?_
      refine j_aload_n jb dX4_unturn_3 0 rfl ?_
      refine j_get jb f_X4_20 dX4_unturn_4 0 rfl rfl ?_
      refine j_icmp_ge (tgt := 139) jb dX4_unturn_7 (by decide) (by omega) (by omega) (fun c_7 => ?_) (fun c_7 => ?_)
      · skip
        refine j_iconst jb dX4_unturn_139 ?_
        refine j_norm (lv' := []) (st' := [.int (iI 1)]) (ws' := [(h0, oX4 r0 k0 n ch tn sb bh), (r0, aG x.g 2 (rf2 q0 q1)), (q0, aI x.g 400 e0), (q1, aI x.g 400 e1)]) [] [0, 1, 2, 3] rfl rfl (by decide) rfl ?_
        exact j_zret jb jr dX4_unturn_140 rfl ⟨_, _, (vb1 (by first | (left; exact c_14) | (right; rw [show n = i by omega]; exact hi5))), rfl, (fun h j h1 h2 => (by first | (have zt : tn = 0 := c_14; have := hi4 j; exact (by by_cases q : j < i; { exact hi3 j h1 q }; { have := hi4 j (by omega); unfold utA utB; rw [if_pos zt, if_pos zt]; exact this })) | exact hi3 j h1 (by omega)))⟩
      · skip
        refine j_aload_n jb dX4_unturn_10 0 rfl ?_
        refine j_get jb f_X4_24 dX4_unturn_11 0 rfl rfl ?_
        refine j_if_eq (tgt := 139) jb dX4_unturn_14 (by decide) (by omega) (fun c_14 => ?_) (fun c_14 => ?_)
        · skip
          refine j_iconst jb dX4_unturn_139 ?_
          refine j_norm (lv' := []) (st' := [.int (iI 1)]) (ws' := [(h0, oX4 r0 k0 n ch tn sb bh), (r0, aG x.g 2 (rf2 q0 q1)), (q0, aI x.g 400 e0), (q1, aI x.g 400 e1)]) [] [0, 1, 2, 3] rfl rfl (by decide) rfl ?_
          exact j_zret jb jr dX4_unturn_140 rfl ⟨_, _, (vb1 (by first | (left; exact c_14) | (right; rw [show n = i by omega]; exact hi5))), rfl, (fun h j h1 h2 => (by first | (have zt : tn = 0 := c_14; have := hi4 j; exact (by by_cases q : j < i; { exact hi3 j h1 q }; { have := hi4 j (by omega); unfold utA utB; rw [if_pos zt, if_pos zt]; exact this })) | exact hi3 j h1 (by omega)))⟩
        · skip
          refine j_aload_n jb dX4_unturn_17 0 rfl ?_
          refine j_get jb f_X4_11 dX4_unturn_18 0 rfl rfl ?_
          refine j_iconst jb dX4_unturn_21 ?_
          refine j_aaldG (b := q0) jb dX4_unturn_22 1 rfl (by decide) (by decide) rfl ?_
          refine j_iload_n jb dX4_unturn_23 1 rfl ?_
          refine j_iald jb dX4_unturn_24 2 rfl (by omega) (by decide) ?_
          refine j_istore_n (lv' := [(2, .int (iI (e0 i))), (0, .ref h0), (1, .int (iI i))]) jb dX4_unturn_25 rfl (by decide) rfl ?_
          refine j_aload_n jb dX4_unturn_26 1 rfl ?_
          refine j_get jb f_X4_11 dX4_unturn_27 0 rfl rfl ?_
          refine j_iconst jb dX4_unturn_30 ?_
          refine j_aaldG (b := q1) jb dX4_unturn_31 1 rfl (by decide) (by decide) rfl ?_
          refine j_iload_n jb dX4_unturn_32 2 rfl ?_
          refine j_iald jb dX4_unturn_33 3 rfl (by omega) (by decide) ?_
          refine j_istore_n (lv' := [(3, .int (iI (e1 i))), (2, .int (iI (e0 i))), (0, .ref h0), (1, .int (iI i))]) jb dX4_unturn_34 rfl (by decide) rfl ?_
          have he := hi4 i (Int.le_refl _)
          have hb9 := hf c_14 i hi1 (by omega)
          refine j_aload_n jb dX4_unturn_35 2 rfl ?_
          refine j_get jb f_X4_24 dX4_unturn_36 0 rfl rfl ?_
          refine j_iconst jb dX4_unturn_39 ?_
          have J91 : ∀ (a b : Int), (a = (utA tn (f0 i) (f1 i)) ∧ b = (utB tn (f0 i) (f1 i)) ∧ (-400000 ≤ a ∧ a ≤ 400000) ∧ -400000 ≤ b ∧ b ≤ 400000) → JW x 0 0 91 [(0, .ref h0), (1, .int (iI i)), (2, .int (iI a)), (3, .int (iI b))] [] [(h0, oX4 r0 k0 n ch tn sb bh), (r0, aG x.g 2 (rf2 q0 q1)), (q0, aI x.g 400 e0), (q1, aI x.g 400 e1)] := by
            intro a b hab
            refine j_iload_n jb dX4_unturn_91 2 rfl ?_
            refine j_aload_n jb dX4_unturn_92 0 rfl ?_
            refine j_get jb f_X4_27 dX4_unturn_93 0 rfl rfl ?_
            refine j_callSN (wr := [(h0, oX4 r0 k0 n ch tn sb bh), (r0, aG x.g 2 (rf2 q0 q1)), (q0, aI x.g 400 e0), (q1, aI x.g 400 e1)]) jb k_X11_fits t_X11_fits n_X4_30 (C_X11_fits x.l x.g a sb (by omega) (by omega)) [] [0, 1, 2, 3] (by decide) rfl rfl (by decide) (by decide) rfl rfl (Nat.le_of_ble_eq_true rfl) (by decide) dX4_unturn_96 (fun v w hp => ?_)
            obtain ⟨rfl, rfl⟩ := hp
            refine j_norm (lv' := [(0, .ref h0), (1, .int (iI i)), (2, .int (iI a)), (3, .int (iI b))]) (st' := [.int (iI (b2i (fit a sb)))]) (ws' := [(h0, oX4 r0 k0 n ch tn sb bh), (r0, aG x.g 2 (rf2 q0 q1)), (q0, aI x.g 400 e0), (q1, aI x.g 400 e1)]) [0, 1, 2, 3] [0, 1, 2, 3] rfl rfl (by decide) rfl ?_
            refine j_ifb_eq (tgt := 113) jb dX4_unturn_99 (by decide) (fun c_99 => ?_) (fun c_99 => ?_)
            · skip
              have hno : ¬ (tn = 0 ∨ uok tn sb f0 f1 n.toNat = true) := by (intro q; rcases q with q | q; { exact c_14 q }; { exact uok_no hi1 (by rw [← hab.1, ← hab.2.1]; intro z; first | exact c_99 z.1 | exact c_110 z.2) n.toNat (by omega) q })
              refine j_iconst jb dX4_unturn_113 ?_
              refine j_norm (lv' := []) (st' := [.int (iI 0)]) (ws' := [(h0, oX4 r0 k0 n ch tn sb bh), (r0, aG x.g 2 (rf2 q0 q1)), (q0, aI x.g 400 e0), (q1, aI x.g 400 e1)]) [] [0, 1, 2, 3] rfl rfl (by decide) rfl ?_
              exact j_zret jb jr dX4_unturn_114 rfl ⟨_, _, (vb0 hno), rfl, (fun h => absurd h hno)⟩
            · skip
              refine j_iload_n jb dX4_unturn_102 3 rfl ?_
              refine j_aload_n jb dX4_unturn_103 0 rfl ?_
              refine j_get jb f_X4_27 dX4_unturn_104 0 rfl rfl ?_
              refine j_callSN (wr := [(h0, oX4 r0 k0 n ch tn sb bh), (r0, aG x.g 2 (rf2 q0 q1)), (q0, aI x.g 400 e0), (q1, aI x.g 400 e1)]) jb k_X11_fits t_X11_fits n_X4_30 (C_X11_fits x.l x.g b sb (by omega) (by omega)) [] [0, 1, 2, 3] (by decide) rfl rfl (by decide) (by decide) rfl rfl (Nat.le_of_ble_eq_true rfl) (by decide) dX4_unturn_107 (fun v w hp => ?_)
              obtain ⟨rfl, rfl⟩ := hp
              refine j_norm (lv' := [(0, .ref h0), (1, .int (iI i)), (2, .int (iI a)), (3, .int (iI b))]) (st' := [.int (iI (b2i (fit b sb)))]) (ws' := [(h0, oX4 r0 k0 n ch tn sb bh), (r0, aG x.g 2 (rf2 q0 q1)), (q0, aI x.g 400 e0), (q1, aI x.g 400 e1)]) [0, 1, 2, 3] [0, 1, 2, 3] rfl rfl (by decide) rfl ?_
              refine j_ifb_ne (tgt := 115) jb dX4_unturn_110 (by decide) (fun c_110 => ?_) (fun c_110 => ?_)
              · skip
                refine j_aload_n jb dX4_unturn_115 0 rfl ?_
                refine j_get jb f_X4_11 dX4_unturn_116 0 rfl rfl ?_
                refine j_iconst jb dX4_unturn_119 ?_
                refine j_aaldG (b := q0) jb dX4_unturn_120 1 rfl (by decide) (by decide) rfl ?_
                refine j_iload_n jb dX4_unturn_121 1 rfl ?_
                refine j_iload_n jb dX4_unturn_122 2 rfl ?_
                refine j_iast (ws' := [(h0, oX4 r0 k0 n ch tn sb bh), (r0, aG x.g 2 (rf2 q0 q1)), (q0, aI x.g 400 (zup e0 i a)), (q1, aI x.g 400 e1)]) jb dX4_unturn_123 2 rfl (by omega) (by decide) rfl ?_
                refine j_aload_n jb dX4_unturn_124 0 rfl ?_
                refine j_get jb f_X4_11 dX4_unturn_125 0 rfl rfl ?_
                refine j_iconst jb dX4_unturn_128 ?_
                refine j_aaldG (b := q1) jb dX4_unturn_129 1 rfl (by decide) (by decide) rfl ?_
                refine j_iload_n jb dX4_unturn_130 1 rfl ?_
                refine j_iload_n jb dX4_unturn_131 3 rfl ?_
                refine j_iast (ws' := [(h0, oX4 r0 k0 n ch tn sb bh), (r0, aG x.g 2 (rf2 q0 q1)), (q0, aI x.g 400 (zup e0 i a)), (q1, aI x.g 400 (zup e1 i b))]) jb dX4_unturn_132 3 rfl (by omega) (by decide) rfl ?_
                refine j_iinc (lv' := [(1, .int (iI (i + 1))), (0, .ref h0), (2, .int (iI a)), (3, .int (iI b))]) jb dX4_unturn_133 1 rfl (by decide) rfl ?_
                refine j_goto (tgt := 2) jb dX4_unturn_136 (by decide) ?_
                refine j_norm (lv' := [(0, .ref h0), (1, .int (iI (i + 1)))]) (st' := []) (ws' := [(h0, oX4 r0 k0 n ch tn sb bh), (r0, aG x.g 2 (rf2 q0 q1)), (q0, aI x.g 400 (zup e0 i a)), (q1, aI x.g 400 (zup e1 i b))]) [1, 0] [0, 1, 2, 3] rfl rfl (by decide) rfl ?_
                exact ih2 (i + 1) (zup e0 i a) (zup e1 i b) ⟨by omega, by omega, fun j h1 h2 => by (by_cases e : j = i); { rw [e, zup_s, zup_s]; exact ⟨hab.1, hab.2.1⟩ }; { rw [zup_n e, zup_n e]; exact hi3 j h1 (by omega) }, fun j h1 => by rw [zup_n (by omega), zup_n (by omega)]; exact hi4 j (by omega), uok_next hi1 hi5 (by rw [← hab.1]; exact c_99) (by rw [← hab.2.1]; exact c_110)⟩ (by omega)
              · skip
                have hno : ¬ (tn = 0 ∨ uok tn sb f0 f1 n.toNat = true) := by (intro q; rcases q with q | q; { exact c_14 q }; { exact uok_no hi1 (by rw [← hab.1, ← hab.2.1]; intro z; first | exact c_99 z.1 | exact c_110 z.2) n.toNat (by omega) q })
                refine j_iconst jb dX4_unturn_113 ?_
                refine j_norm (lv' := []) (st' := [.int (iI 0)]) (ws' := [(h0, oX4 r0 k0 n ch tn sb bh), (r0, aG x.g 2 (rf2 q0 q1)), (q0, aI x.g 400 e0), (q1, aI x.g 400 e1)]) [] [0, 1, 2, 3] rfl rfl (by decide) rfl ?_
                exact j_zret jb jr dX4_unturn_114 rfl ⟨_, _, (vb0 hno), rfl, (fun h => absurd h hno)⟩
          refine j_icmp_ne (tgt := 50) jb dX4_unturn_40 (by decide) (by omega) (by omega) (fun c_40 => ?_) (fun c_40 => ?_)
          · skip
            refine j_aload_n jb dX4_unturn_50 2 rfl ?_
            refine j_get jb f_X4_24 dX4_unturn_51 0 rfl rfl ?_
            refine j_iconst jb dX4_unturn_54 ?_
            refine j_icmp_ne (tgt := 65) jb dX4_unturn_55 (by decide) (by omega) (by omega) (fun c_55 => ?_) (fun c_55 => ?_)
            · skip
              refine j_iload_n jb dX4_unturn_65 0 rfl ?_
              refine j_istore (lv' := [(4, .int (iI (e1 i))), (3, .int (iI (e1 i))), (2, .int (iI (e0 i))), (0, .ref h0), (1, .int (iI i))]) jb dX4_unturn_66 (by decide) rfl ?_
              refine j_iconst jb dX4_unturn_68 ?_
              refine j_iload_n jb dX4_unturn_69 2 rfl ?_
              refine j_imul jb dX4_unturn_70 ?_
              refine j_iload jb dX4_unturn_71 0 rfl ?_
              refine j_iconst jb dX4_unturn_73 ?_
              refine j_iand jb dX4_unturn_74 ?_
              refine j_topi (e1 i % 2) (zAnd_1 _) ?_
              refine j_iadd jb dX4_unturn_75 ?_
              refine j_istore (lv' := [(5, .int (iI ((2 * (e0 i)) + (e1 i % 2)))), (4, .int (iI (e1 i))), (3, .int (iI (e1 i))), (2, .int (iI (e0 i))), (0, .ref h0), (1, .int (iI i))]) jb dX4_unturn_76 (by decide) rfl ?_
              refine j_iload jb dX4_unturn_78 0 rfl ?_
              refine j_iload jb dX4_unturn_80 1 rfl ?_
              refine j_iadd jb dX4_unturn_82 ?_
              refine j_iconst jb dX4_unturn_83 ?_
              refine j_ishr jb dX4_unturn_84 (by omega) (by decide) ?_
              refine j_topi ((2 * e0 i + e1 i % 2 + e1 i) / 2) rfl ?_
              refine j_istore_n (lv' := [(2, .int (iI ((2 * e0 i + e1 i % 2 + e1 i) / 2))), (5, .int (iI ((2 * (e0 i)) + (e1 i % 2)))), (4, .int (iI (e1 i))), (3, .int (iI (e1 i))), (0, .ref h0), (1, .int (iI i))]) jb dX4_unturn_85 rfl (by decide) rfl ?_
              refine j_iload_n jb dX4_unturn_86 0 rfl ?_
              refine j_iload jb dX4_unturn_87 2 rfl ?_
              refine j_isub jb dX4_unturn_89 ?_
              refine j_istore_n (lv' := [(3, .int (iI (((2 * e0 i + e1 i % 2 + e1 i) / 2) - (e1 i)))), (2, .int (iI ((2 * e0 i + e1 i % 2 + e1 i) / 2))), (5, .int (iI ((2 * (e0 i)) + (e1 i % 2)))), (4, .int (iI (e1 i))), (0, .ref h0), (1, .int (iI i))]) jb dX4_unturn_90 rfl (by decide) rfl ?_
              refine j_norm (lv' := [(0, .ref h0), (1, .int (iI i)), (2, .int (iI ((2 * e0 i + e1 i % 2 + e1 i) / 2))), (3, .int (iI (((2 * e0 i + e1 i % 2 + e1 i) / 2) - (e1 i))))]) (st' := []) (ws' := [(h0, oX4 r0 k0 n ch tn sb bh), (r0, aG x.g 2 (rf2 q0 q1)), (q0, aI x.g 400 e0), (q1, aI x.g 400 e1)]) [4, 5, 1, 0] [0, 1, 2, 3] rfl rfl (by decide) rfl ?_
              exact J91 ((2 * e0 i + e1 i % 2 + e1 i) / 2) (((2 * e0 i + e1 i % 2 + e1 i) / 2) - (e1 i)) ⟨by unfold utA; rw [if_neg c_14, if_neg c_40, if_neg c_55, he.1, he.2], by unfold utB; rw [if_neg c_14, if_neg c_40, if_neg c_55, he.1, he.2], by omega, by omega⟩
            · skip
              refine j_iload_n jb dX4_unturn_58 1 rfl ?_
              refine j_iload_n jb dX4_unturn_59 0 rfl ?_
              refine j_iadd jb dX4_unturn_60 ?_
              refine j_istore_n (lv' := [(2, .int (iI ((e0 i) + (e1 i)))), (3, .int (iI (e1 i))), (0, .ref h0), (1, .int (iI i))]) jb dX4_unturn_61 rfl (by decide) rfl ?_
              refine j_goto (tgt := 91) jb dX4_unturn_62 (by decide) ?_
              refine j_norm (lv' := [(0, .ref h0), (1, .int (iI i)), (2, .int (iI ((e0 i) + (e1 i)))), (3, .int (iI (e1 i)))]) (st' := []) (ws' := [(h0, oX4 r0 k0 n ch tn sb bh), (r0, aG x.g 2 (rf2 q0 q1)), (q0, aI x.g 400 e0), (q1, aI x.g 400 e1)]) [2, 3, 0, 1] [0, 1, 2, 3] rfl rfl (by decide) rfl ?_
              exact J91 ((e0 i) + (e1 i)) (e1 i) ⟨by unfold utA; rw [if_neg c_14, if_neg c_40, if_pos c_55, he.1, he.2], by unfold utB; rw [if_neg c_14, if_neg c_40, if_pos c_55]; exact he.2, by omega, by omega⟩
          · skip
            refine j_iload_n jb dX4_unturn_43 1 rfl ?_
            refine j_iload_n jb dX4_unturn_44 0 rfl ?_
            refine j_isub jb dX4_unturn_45 ?_
            refine j_istore_n (lv' := [(3, .int (iI ((e0 i) - (e1 i)))), (2, .int (iI (e0 i))), (0, .ref h0), (1, .int (iI i))]) jb dX4_unturn_46 rfl (by decide) rfl ?_
            refine j_goto (tgt := 91) jb dX4_unturn_47 (by decide) ?_
            refine j_norm (lv' := [(0, .ref h0), (1, .int (iI i)), (2, .int (iI (e0 i))), (3, .int (iI ((e0 i) - (e1 i))))]) (st' := []) (ws' := [(h0, oX4 r0 k0 n ch tn sb bh), (r0, aG x.g 2 (rf2 q0 q1)), (q0, aI x.g 400 e0), (q1, aI x.g 400 e1)]) [2, 3, 1, 0] [0, 1, 2, 3] rfl rfl (by decide) rfl ?_
            exact J91 (e0 i) ((e0 i) - (e1 i)) ⟨by unfold utA; rw [if_neg c_14, if_pos c_40]; exact he.1, by unfold utB; rw [if_neg c_14, if_pos c_40, he.1, he.2], by omega, by omega⟩
  refine j_norm (lv' := [(0, .ref h0), (1, .int (iI 0))]) (st' := []) (ws' := [(h0, oX4 r0 k0 n ch tn sb bh), (r0, aG x.g 2 (rf2 q0 q1)), (q0, aI x.g 400 f0), (q1, aI x.g 400 f1)]) [1, 0] [0, 1, 2, 3] rfl rfl (by decide) rfl ?_
  exact L2 _ 0 f0 f1 ⟨by decide, hn.1, fun j h1 h2 => by omega, fun j _ => ⟨rfl, rfl⟩, rfl⟩ (Nat.lt_succ_self _)

