set_option maxHeartbeats 4000000 in
set_option maxRecDepth 100000 in
theorem C_X2_mixChannels (l : Launch) (g : GG) (h0 c0 a0 s0 r0 q0 q1 q2 q3 : Nat) (n ch tn bi sb : Int) (f0 f1 f2 f3 : Int → Int) (hn : 0 ≤ n ∧ n ≤ 400) (hf : ∀ j, 0 ≤ j → j < n → (-32768 ≤ f0 j ∧ f0 j < 32768) ∧ (-32768 ≤ f1 j ∧ f1 j < 32768)) : Ctr l g yX2_mixChannels cX2_mixChannels 2 none 0 0 0 0 [.ref h0] [(h0, oX2 c0 a0 n ch tn bi s0 r0 sb), (r0, aG g 4 (rf4 q0 q1 q2 q3)), (q0, aI g 400 f0), (q1, aI g 400 f1), (q2, aI g 400 f2), (q3, aI g 400 f3)] (fun vv ww => ∃ (e2 e3 : Int → Int), vv = none ∧ ww = [(h0, oX2 c0 a0 n ch tn bi s0 r0 sb), (r0, aG g 4 (rf4 q0 q1 q2 q3)), (q0, aI g 400 f0), (q1, aI g 400 f1), (q2, aI g 400 e2), (q3, aI g 400 e3)] ∧ isMix f0 f1 e2 e3 n) := by
  refine Ctr.of [(0, .ref h0)] (by decide) (Nat.le_of_ble_eq_true rfl) rfl ?_
  intro x hxl hxg jb jr hin
  subst hxl; subst hxg
  refine j_iconst jb dX2_mixChannels_0 ?_
  refine j_istore_n (lv' := [(1, .int (iI 0)), (0, .ref h0)]) jb dX2_mixChannels_1 rfl (by decide) rfl ?_
  have L2 : ∀ (fu : Nat) (i : Int) (e2 e3 : Int → Int), (0 ≤ i ∧ i ≤ n ∧ isMix f0 f1 e2 e3 i) → (n - i).toNat < fu → JW x 0 0 2 [(0, .ref h0), (1, .int (iI i))] [] [(h0, oX2 c0 a0 n ch tn bi s0 r0 sb), (r0, aG x.g 4 (rf4 q0 q1 q2 q3)), (q0, aI x.g 400 f0), (q1, aI x.g 400 f1), (q2, aI x.g 400 e2), (q3, aI x.g 400 e3)] := by
    intro fu
    induction fu with
    | zero => intro i e2 e3 _ hm; exact absurd hm (by omega)
    | succ fu ih =>
      intro i e2 e3 ⟨hi1, hi2, hi3⟩ hm2
      have ih2 := ih
      clear ih
      refine j_iload_n jb dX2_mixChannels_2 1 rfl ?_
      refine j_aload_n jb dX2_mixChannels_3 0 rfl ?_
      refine j_get jb f_X2_37 dX2_mixChannels_4 0 rfl rfl ?_
      refine j_icmp_ge (tgt := 68) jb dX2_mixChannels_7 (by decide) (by omega) (by omega) (fun c_7 => ?_) (fun c_7 => ?_)
      · skip
        refine j_norm (lv' := []) (st' := []) (ws' := [(h0, oX2 c0 a0 n ch tn bi s0 r0 sb), (r0, aG x.g 4 (rf4 q0 q1 q2 q3)), (q0, aI x.g 400 f0), (q1, aI x.g 400 f1), (q2, aI x.g 400 e2), (q3, aI x.g 400 e3)]) [] [0, 1, 2, 3, 4, 5] rfl rfl (by decide) rfl ?_
        exact j_vret jb jr dX2_mixChannels_68 ⟨_, _, rfl, rfl, (fun j h1 h2 => hi3 j h1 (by omega))⟩
      · skip
        have hfi := hf i hi1 (by omega)
        refine j_aload_n jb dX2_mixChannels_10 0 rfl ?_
        refine j_get jb f_X2_33 dX2_mixChannels_11 0 rfl rfl ?_
        refine j_iconst jb dX2_mixChannels_14 ?_
        refine j_aaldG (b := q2) jb dX2_mixChannels_15 1 rfl (by decide) (by decide) rfl ?_
        refine j_iload_n jb dX2_mixChannels_16 1 rfl ?_
        refine j_aload_n jb dX2_mixChannels_17 0 rfl ?_
        refine j_get jb f_X2_33 dX2_mixChannels_18 0 rfl rfl ?_
        refine j_iconst jb dX2_mixChannels_21 ?_
        refine j_aaldG (b := q0) jb dX2_mixChannels_22 1 rfl (by decide) (by decide) rfl ?_
        refine j_iload_n jb dX2_mixChannels_23 1 rfl ?_
        refine j_iald jb dX2_mixChannels_24 2 rfl (by omega) (by decide) ?_
        refine j_aload_n jb dX2_mixChannels_25 0 rfl ?_
        refine j_get jb f_X2_33 dX2_mixChannels_26 0 rfl rfl ?_
        refine j_iconst jb dX2_mixChannels_29 ?_
        refine j_aaldG (b := q1) jb dX2_mixChannels_30 1 rfl (by decide) (by decide) rfl ?_
        refine j_iload_n jb dX2_mixChannels_31 1 rfl ?_
        refine j_iald jb dX2_mixChannels_32 3 rfl (by omega) (by decide) ?_
        refine j_isub jb dX2_mixChannels_33 ?_
        refine j_iast (ws' := [(h0, oX2 c0 a0 n ch tn bi s0 r0 sb), (r0, aG x.g 4 (rf4 q0 q1 q2 q3)), (q0, aI x.g 400 f0), (q1, aI x.g 400 f1), (q2, aI x.g 400 (zup e2 i ((f0 i) - (f1 i)))), (q3, aI x.g 400 e3)]) jb dX2_mixChannels_34 4 rfl (by omega) (by decide) rfl ?_
        refine j_aload_n jb dX2_mixChannels_35 0 rfl ?_
        refine j_get jb f_X2_33 dX2_mixChannels_36 0 rfl rfl ?_
        refine j_iconst jb dX2_mixChannels_39 ?_
        refine j_aaldG (b := q3) jb dX2_mixChannels_40 1 rfl (by decide) (by decide) rfl ?_
        refine j_iload_n jb dX2_mixChannels_41 1 rfl ?_
        refine j_aload_n jb dX2_mixChannels_42 0 rfl ?_
        refine j_get jb f_X2_33 dX2_mixChannels_43 0 rfl rfl ?_
        refine j_iconst jb dX2_mixChannels_46 ?_
        refine j_aaldG (b := q0) jb dX2_mixChannels_47 1 rfl (by decide) (by decide) rfl ?_
        refine j_iload_n jb dX2_mixChannels_48 1 rfl ?_
        refine j_iald jb dX2_mixChannels_49 2 rfl (by omega) (by decide) ?_
        refine j_aload_n jb dX2_mixChannels_50 0 rfl ?_
        refine j_get jb f_X2_33 dX2_mixChannels_51 0 rfl rfl ?_
        refine j_iconst jb dX2_mixChannels_54 ?_
        refine j_aaldG (b := q1) jb dX2_mixChannels_55 1 rfl (by decide) (by decide) rfl ?_
        refine j_iload_n jb dX2_mixChannels_56 1 rfl ?_
        refine j_iald jb dX2_mixChannels_57 3 rfl (by omega) (by decide) ?_
        refine j_iadd jb dX2_mixChannels_58 ?_
        refine j_iconst jb dX2_mixChannels_59 ?_
        refine j_ishr jb dX2_mixChannels_60 (by omega) (by decide) ?_
        refine j_topi ((f0 i + f1 i) / 2) (p1 _) ?_
        refine j_iast (ws' := [(h0, oX2 c0 a0 n ch tn bi s0 r0 sb), (r0, aG x.g 4 (rf4 q0 q1 q2 q3)), (q0, aI x.g 400 f0), (q1, aI x.g 400 f1), (q2, aI x.g 400 (zup e2 i ((f0 i) - (f1 i)))), (q3, aI x.g 400 (zup e3 i ((f0 i + f1 i) / 2)))]) jb dX2_mixChannels_61 5 rfl (by omega) (by decide) rfl ?_
        refine j_iinc (lv' := [(1, .int (iI (i + 1))), (0, .ref h0)]) jb dX2_mixChannels_62 1 rfl (by decide) rfl ?_
        refine j_goto (tgt := 2) jb dX2_mixChannels_65 (by decide) ?_
        refine j_norm (lv' := [(0, .ref h0), (1, .int (iI (i + 1)))]) (st' := []) (ws' := [(h0, oX2 c0 a0 n ch tn bi s0 r0 sb), (r0, aG x.g 4 (rf4 q0 q1 q2 q3)), (q0, aI x.g 400 f0), (q1, aI x.g 400 f1), (q2, aI x.g 400 (zup e2 i ((f0 i) - (f1 i)))), (q3, aI x.g 400 (zup e3 i ((f0 i + f1 i) / 2)))]) [1, 0] [0, 1, 2, 3, 4, 5] rfl rfl (by decide) rfl ?_
        exact ih2 (i + 1) (zup e2 i ((f0 i) - (f1 i))) (zup e3 i ((f0 i + f1 i) / 2)) ⟨by omega, by omega, fun j h1 h2 => by (by_cases e : j = i); { rw [e, zup_s, zup_s]; exact ⟨rfl, rfl⟩ }; { rw [zup_n e, zup_n e]; exact hi3 j h1 (by omega) }⟩ (by omega)
  refine j_norm (lv' := [(0, .ref h0), (1, .int (iI 0))]) (st' := []) (ws' := [(h0, oX2 c0 a0 n ch tn bi s0 r0 sb), (r0, aG x.g 4 (rf4 q0 q1 q2 q3)), (q0, aI x.g 400 f0), (q1, aI x.g 400 f1), (q2, aI x.g 400 f2), (q3, aI x.g 400 f3)]) [1, 0] [0, 1, 2, 3, 4, 5] rfl rfl (by decide) rfl ?_
  exact L2 _ 0 f2 f3 ⟨by decide, hn.1, fun j h1 h2 => by omega⟩ (Nat.lt_succ_self _)

set_option maxHeartbeats 4000000 in
set_option maxRecDepth 100000 in
theorem C_X2_chooseTurn_1 (l : Launch) (g : GG) (h0 c0 a0 s0 r0 g0 g1 g2 g3 k0 x0 : Nat) (n tn bi sb kd0 ws0 b0 p0 : Int)  : Ctr l g yX2_chooseTurn cX2_chooseTurn 3 none 0 0 0 0 [.ref h0] [(h0, oX2 c0 a0 n 1 tn bi s0 r0 sb), (a0, aF g 4 (rf4 g0 g1 g2 g3)), (g0, oX8 k0 x0 kd0 ws0 b0 p0)] (fun vv ww => vv = none ∧ ww = [(h0, oX2 c0 a0 n 1 0 (16 + b0) s0 r0 sb), (a0, aF g 4 (rf4 g0 g1 g2 g3)), (g0, oX8 k0 x0 kd0 ws0 b0 p0)]) := by
  refine Ctr.of [(0, .ref h0)] (by decide) (Nat.le_of_ble_eq_true rfl) rfl ?_
  intro x hxl hxg jb jr hin
  subst hxl; subst hxg
  refine j_aload_n jb dX2_chooseTurn_0 0 rfl ?_
  refine j_iconst jb dX2_chooseTurn_1 ?_
  refine j_put (ws' := [(h0, oX2 c0 a0 n 1 0 bi s0 r0 sb), (a0, aF x.g 4 (rf4 g0 g1 g2 g3)), (g0, oX8 k0 x0 kd0 ws0 b0 p0)]) jb f_X2_61 w_X2_4 rfl dX2_chooseTurn_2 0 rfl rfl rfl (Nat.le_of_ble_eq_true rfl) rfl ?_
  refine j_aload_n jb dX2_chooseTurn_5 0 rfl ?_
  refine j_get jb f_X2_41 dX2_chooseTurn_6 0 rfl rfl ?_
  refine j_iconst jb dX2_chooseTurn_9 ?_
  refine j_icmp_ne (tgt := 30) jb dX2_chooseTurn_10 (by decide) (by decide) (by decide) (fun h => absurd h (by decide)) (fun _ => ?_)
  refine j_aload_n jb dX2_chooseTurn_13 0 rfl ?_
  refine j_bipush jb dX2_chooseTurn_14 (by decide) ?_
  refine j_aload_n jb dX2_chooseTurn_16 0 rfl ?_
  refine j_get jb f_X2_12 dX2_chooseTurn_17 0 rfl rfl ?_
  refine j_iconst jb dX2_chooseTurn_20 ?_
  refine j_aaldF (b := g0) jb dX2_chooseTurn_21 1 rfl (by decide) (by decide) rfl ?_
  refine j_get jb f_X2_64 dX2_chooseTurn_22 2 rfl rfl ?_
  refine j_iadd jb dX2_chooseTurn_25 ?_
  refine j_put (ws' := [(h0, oX2 c0 a0 n 1 0 (16 + b0) s0 r0 sb), (a0, aF x.g 4 (rf4 g0 g1 g2 g3)), (g0, oX8 k0 x0 kd0 ws0 b0 p0)]) jb f_X2_67 w_X2_5 rfl dX2_chooseTurn_26 0 rfl rfl rfl (Nat.le_of_ble_eq_true rfl) rfl ?_
  refine j_norm (lv' := []) (st' := []) (ws' := [(h0, oX2 c0 a0 n 1 0 (16 + b0) s0 r0 sb), (a0, aF x.g 4 (rf4 g0 g1 g2 g3)), (g0, oX8 k0 x0 kd0 ws0 b0 p0)]) [] [0, 1, 2] rfl rfl (by decide) rfl ?_
  exact j_vret jb jr dX2_chooseTurn_29 ⟨rfl, rfl⟩

set_option maxHeartbeats 4000000 in
set_option maxRecDepth 100000 in
theorem C_X2_chooseTurn_2 (l : Launch) (g : GG) (h0 c0 a0 s0 r0 g0 g1 g2 g3 k0 k1 k2 k3 x0 x1 x2 x3 : Nat) (n tn bi sb : Int) (kd0 kd1 kd2 kd3 ws0 ws1 ws2 ws3 b0 b1 b2 b3 p0 p1 p2 p3 : Int) (hb : (0 ≤ b0 ∧ b0 ≤ 300000) ∧ (0 ≤ b1 ∧ b1 ≤ 300000) ∧ (0 ≤ b2 ∧ b2 ≤ 300000) ∧ (0 ≤ b3 ∧ b3 ≤ 300000)) : Ctr l g yX2_chooseTurn cX2_chooseTurn 3 none 0 0 0 0 [.ref h0] [(h0, oX2 c0 a0 n 2 tn bi s0 r0 sb), (a0, aF g 4 (rf4 g0 g1 g2 g3)), (g0, oX8 k0 x0 kd0 ws0 b0 p0), (g1, oX8 k1 x1 kd1 ws1 b1 p1), (g2, oX8 k2 x2 kd2 ws2 b2 p2), (g3, oX8 k3 x3 kd3 ws3 b3 p3)] (fun vv ww => ∃ (tn2 bi2 : Int), vv = none ∧ ww = [(h0, oX2 c0 a0 n 2 tn2 bi2 s0 r0 sb), (a0, aF g 4 (rf4 g0 g1 g2 g3)), (g0, oX8 k0 x0 kd0 ws0 b0 p0), (g1, oX8 k1 x1 kd1 ws1 b1 p1), (g2, oX8 k2 x2 kd2 ws2 b2 p2), (g3, oX8 k3 x3 kd3 ws3 b3 p3)] ∧ bi2 = (pMin (tSum (fb4 b0 b1 b2 b3)) 3).1 ∧ tn2 = (pMin (tSum (fb4 b0 b1 b2 b3)) 3).2 ∧ (0 ≤ tn2 ∧ tn2 ≤ 3) ∧ 0 ≤ bi2 ∧ bi2 ≤ 700000) := by
  refine Ctr.of [(0, .ref h0)] (by decide) (Nat.le_of_ble_eq_true rfl) rfl ?_
  intro x hxl hxg jb jr hin
  subst hxl; subst hxg
  refine j_aload_n jb dX2_chooseTurn_0 0 rfl ?_
  refine j_iconst jb dX2_chooseTurn_1 ?_
  refine j_put (ws' := [(h0, oX2 c0 a0 n 2 0 bi s0 r0 sb), (a0, aF x.g 4 (rf4 g0 g1 g2 g3)), (g0, oX8 k0 x0 kd0 ws0 b0 p0), (g1, oX8 k1 x1 kd1 ws1 b1 p1), (g2, oX8 k2 x2 kd2 ws2 b2 p2), (g3, oX8 k3 x3 kd3 ws3 b3 p3)]) jb f_X2_61 w_X2_4 rfl dX2_chooseTurn_2 0 rfl rfl rfl (Nat.le_of_ble_eq_true rfl) rfl ?_
  refine j_aload_n jb dX2_chooseTurn_5 0 rfl ?_
  refine j_get jb f_X2_41 dX2_chooseTurn_6 0 rfl rfl ?_
  refine j_iconst jb dX2_chooseTurn_9 ?_
  refine j_icmp_ne (tgt := 30) jb dX2_chooseTurn_10 (by decide) (by decide) (by decide) (fun _ => ?_) (fun h => absurd h (by decide))
  refine j_aload_n jb dX2_chooseTurn_30 0 rfl ?_
  refine j_iconst jb dX2_chooseTurn_31 ?_
  refine j_put (ws' := [(h0, oX2 c0 a0 n 2 0 (-1) s0 r0 sb), (a0, aF x.g 4 (rf4 g0 g1 g2 g3)), (g0, oX8 k0 x0 kd0 ws0 b0 p0), (g1, oX8 k1 x1 kd1 ws1 b1 p1), (g2, oX8 k2 x2 kd2 ws2 b2 p2), (g3, oX8 k3 x3 kd3 ws3 b3 p3)]) jb f_X2_67 w_X2_5 rfl dX2_chooseTurn_32 0 rfl rfl rfl (Nat.le_of_ble_eq_true rfl) rfl ?_
  refine j_iconst jb dX2_chooseTurn_35 ?_
  refine j_istore_n (lv' := [(1, .int (iI 0)), (0, .ref h0)]) jb dX2_chooseTurn_36 rfl (by decide) rfl ?_
  have L37 : ∀ (fu : Nat) (t tn2 bi2 : Int), (0 ≤ t ∧ t ≤ 4 ∧ (-1 ≤ bi2 ∧ bi2 ≤ 700000) ∧ (0 ≤ tn2 ∧ tn2 ≤ 3) ∧ (t = 0 → bi2 = -1) ∧ (0 < t → bi2 = (pMin (tSum (fb4 b0 b1 b2 b3)) (t - 1).toNat).1 ∧ tn2 = (pMin (tSum (fb4 b0 b1 b2 b3)) (t - 1).toNat).2 ∧ 0 ≤ bi2)) → (4 - t).toNat < fu → JW x 0 0 37 [(0, .ref h0), (1, .int (iI t))] [] [(h0, oX2 c0 a0 n 2 tn2 bi2 s0 r0 sb), (a0, aF x.g 4 (rf4 g0 g1 g2 g3)), (g0, oX8 k0 x0 kd0 ws0 b0 p0), (g1, oX8 k1 x1 kd1 ws1 b1 p1), (g2, oX8 k2 x2 kd2 ws2 b2 p2), (g3, oX8 k3 x3 kd3 ws3 b3 p3)] := by
    intro fu
    induction fu with
    | zero => intro t tn2 bi2 _ hm; exact absurd hm (by omega)
    | succ fu ih =>
      intro t tn2 bi2 ⟨hi1, hi2, hi3, hi6, hi4, hi5⟩ hm37
      have ih37 := ih
      clear ih
      refine j_iload_n jb dX2_chooseTurn_37 1 rfl ?_
      refine j_iconst jb dX2_chooseTurn_38 ?_
      refine j_icmp_ge (tgt := 105) jb dX2_chooseTurn_39 (by decide) (by omega) (by omega) (fun c_39 => ?_) (fun c_39 => ?_)
      · skip
        refine j_norm (lv' := []) (st' := []) (ws' := [(h0, oX2 c0 a0 n 2 tn2 bi2 s0 r0 sb), (a0, aF x.g 4 (rf4 g0 g1 g2 g3)), (g0, oX8 k0 x0 kd0 ws0 b0 p0), (g1, oX8 k1 x1 kd1 ws1 b1 p1), (g2, oX8 k2 x2 kd2 ws2 b2 p2), (g3, oX8 k3 x3 kd3 ws3 b3 p3)]) [] [0, 1, 2, 3, 4, 5] rfl rfl (by decide) rfl ?_
        exact j_vret jb jr dX2_chooseTurn_105 ⟨_, _, rfl, rfl, (by have z := hi5 (by omega); rw [show t = 4 by omega] at z; exact ⟨z.1, z.2.1, hi6, z.2.2, hi3.2⟩)⟩
      · skip
        rcases (show t = 0 ∨ t = 1 ∨ t = 2 ∨ t = 3 by omega) with e | e | e | e
        · skip
          subst e
          refine j_bipush jb dX2_chooseTurn_42 (by decide) ?_
          refine j_aload_n jb dX2_chooseTurn_44 0 rfl ?_
          refine j_get jb f_X2_12 dX2_chooseTurn_45 0 rfl rfl ?_
          refine j_getsN jb jb.2.2.2.2.2.2.2.1.1.1 n_X2_68 dX2_chooseTurn_48 ?_
          refine j_iload_n jb dX2_chooseTurn_51 1 rfl ?_
          refine j_tald jb jb.2.2.2.2.2.2.2.1.1.2 (by decide) (by decide) dX2_chooseTurn_52 ?_
          refine j_topi 0 (by decide) ?_
          refine j_aaldF (b := g0) jb dX2_chooseTurn_53 1 rfl (by decide) (by decide) rfl ?_
          refine j_get jb f_X2_64 dX2_chooseTurn_54 2 rfl rfl ?_
          refine j_iadd jb dX2_chooseTurn_57 ?_
          refine j_aload_n jb dX2_chooseTurn_58 0 rfl ?_
          refine j_get jb f_X2_12 dX2_chooseTurn_59 0 rfl rfl ?_
          refine j_getsN jb jb.2.2.2.2.2.2.2.1.2.1.1 n_X2_71 dX2_chooseTurn_62 ?_
          refine j_iload_n jb dX2_chooseTurn_65 1 rfl ?_
          refine j_tald jb jb.2.2.2.2.2.2.2.1.2.1.2 (by decide) (by decide) dX2_chooseTurn_66 ?_
          refine j_topi 1 (by decide) ?_
          refine j_aaldF (b := g1) jb dX2_chooseTurn_67 1 rfl (by decide) (by decide) rfl ?_
          refine j_get jb f_X2_64 dX2_chooseTurn_68 3 rfl rfl ?_
          refine j_iadd jb dX2_chooseTurn_71 ?_
          refine j_geni (fun sm e_sm => ?_)
          refine j_istore_n (lv' := [(2, .int (iI sm)), (0, .ref h0), (1, .int (iI 0))]) jb dX2_chooseTurn_72 rfl (by decide) rfl ?_
          refine j_aload_n jb dX2_chooseTurn_73 1 rfl ?_
          refine j_get jb f_X2_67 dX2_chooseTurn_74 0 rfl rfl ?_
          refine j_iconst jb dX2_chooseTurn_77 ?_
          refine j_icmp_eq (tgt := 89) jb dX2_chooseTurn_78 (by decide) (by omega) (by omega) (fun c_78 => ?_) (fun c_78 => ?_)
          · skip
            refine j_aload_n jb dX2_chooseTurn_89 1 rfl ?_
            refine j_iload_n jb dX2_chooseTurn_90 0 rfl ?_
            refine j_put (ws' := [(h0, oX2 c0 a0 n 2 tn2 sm s0 r0 sb), (a0, aF x.g 4 (rf4 g0 g1 g2 g3)), (g0, oX8 k0 x0 kd0 ws0 b0 p0), (g1, oX8 k1 x1 kd1 ws1 b1 p1), (g2, oX8 k2 x2 kd2 ws2 b2 p2), (g3, oX8 k3 x3 kd3 ws3 b3 p3)]) jb f_X2_67 w_X2_5 rfl dX2_chooseTurn_91 0 rfl rfl rfl (Nat.le_of_ble_eq_true rfl) rfl ?_
            refine j_aload_n jb dX2_chooseTurn_94 1 rfl ?_
            refine j_iload_n jb dX2_chooseTurn_95 2 rfl ?_
            refine j_put (ws' := [(h0, oX2 c0 a0 n 2 0 sm s0 r0 sb), (a0, aF x.g 4 (rf4 g0 g1 g2 g3)), (g0, oX8 k0 x0 kd0 ws0 b0 p0), (g1, oX8 k1 x1 kd1 ws1 b1 p1), (g2, oX8 k2 x2 kd2 ws2 b2 p2), (g3, oX8 k3 x3 kd3 ws3 b3 p3)]) jb f_X2_61 w_X2_4 rfl dX2_chooseTurn_96 0 rfl rfl rfl (Nat.le_of_ble_eq_true rfl) rfl ?_
            refine j_iinc (lv' := [(1, .int (iI (0 + 1))), (2, .int (iI sm)), (0, .ref h0)]) jb dX2_chooseTurn_99 2 rfl (by decide) rfl ?_
            refine j_goto (tgt := 37) jb dX2_chooseTurn_102 (by decide) ?_
            refine j_norm (lv' := [(0, .ref h0), (1, .int (iI (0 + 1)))]) (st' := []) (ws' := [(h0, oX2 c0 a0 n 2 0 sm s0 r0 sb), (a0, aF x.g 4 (rf4 g0 g1 g2 g3)), (g0, oX8 k0 x0 kd0 ws0 b0 p0), (g1, oX8 k1 x1 kd1 ws1 b1 p1), (g2, oX8 k2 x2 kd2 ws2 b2 p2), (g3, oX8 k3 x3 kd3 ws3 b3 p3)]) [2, 0] [0, 1, 2, 3, 4, 5] rfl rfl (by decide) rfl ?_
            exact ih37 (0 + 1) 0 sm (by have hts : sm = (tSum (fb4 b0 b1 b2 b3)) (0 : Int).toNat := (by rw [e_sm]; rfl); first | (exact absurd (hi4 rfl) c_78) | (have z := pM_new (f := (tSum (fb4 b0 b1 b2 b3))) (i := (0 : Int)) (by decide) (by first | (left; rfl) | (right; rw [← hts, ← (hi5 (by decide)).1]; omega)); rw [← hts] at z; exact ⟨by omega, by omega, by omega, by omega, fun h => by omega, fun _ => by rw [show (0 : Int) + 1 - 1 = (0 : Int) by omega, z]; exact ⟨rfl, rfl, by omega⟩⟩) | (have z := pM_old (f := (tSum (fb4 b0 b1 b2 b3))) (i := (0 : Int)) (by decide) (by rw [← hts, ← (hi5 (by decide)).1]; omega); exact ⟨by omega, by omega, hi3, hi6, fun h => by omega, fun _ => by rw [show (0 : Int) + 1 - 1 = (0 : Int) by omega, z]; exact hi5 (by decide)⟩)) (by omega)
          · skip
            refine j_iload_n jb dX2_chooseTurn_81 0 rfl ?_
            refine j_aload_n jb dX2_chooseTurn_82 1 rfl ?_
            refine j_get jb f_X2_67 dX2_chooseTurn_83 0 rfl rfl ?_
            refine j_icmp_ge (tgt := 99) jb dX2_chooseTurn_86 (by decide) (by omega) (by omega) (fun c_86 => ?_) (fun c_86 => ?_)
            · skip
              refine j_iinc (lv' := [(1, .int (iI (0 + 1))), (2, .int (iI sm)), (0, .ref h0)]) jb dX2_chooseTurn_99 2 rfl (by decide) rfl ?_
              refine j_goto (tgt := 37) jb dX2_chooseTurn_102 (by decide) ?_
              refine j_norm (lv' := [(0, .ref h0), (1, .int (iI (0 + 1)))]) (st' := []) (ws' := [(h0, oX2 c0 a0 n 2 tn2 bi2 s0 r0 sb), (a0, aF x.g 4 (rf4 g0 g1 g2 g3)), (g0, oX8 k0 x0 kd0 ws0 b0 p0), (g1, oX8 k1 x1 kd1 ws1 b1 p1), (g2, oX8 k2 x2 kd2 ws2 b2 p2), (g3, oX8 k3 x3 kd3 ws3 b3 p3)]) [2, 0] [0, 1, 2, 3, 4, 5] rfl rfl (by decide) rfl ?_
              exact ih37 (0 + 1) tn2 bi2 (by have hts : sm = (tSum (fb4 b0 b1 b2 b3)) (0 : Int).toNat := (by rw [e_sm]; rfl); first | (exact absurd (hi4 rfl) c_78) | (have z := pM_new (f := (tSum (fb4 b0 b1 b2 b3))) (i := (0 : Int)) (by decide) (by first | (left; rfl) | (right; rw [← hts, ← (hi5 (by decide)).1]; omega)); rw [← hts] at z; exact ⟨by omega, by omega, by omega, by omega, fun h => by omega, fun _ => by rw [show (0 : Int) + 1 - 1 = (0 : Int) by omega, z]; exact ⟨rfl, rfl, by omega⟩⟩) | (have z := pM_old (f := (tSum (fb4 b0 b1 b2 b3))) (i := (0 : Int)) (by decide) (by rw [← hts, ← (hi5 (by decide)).1]; omega); exact ⟨by omega, by omega, hi3, hi6, fun h => by omega, fun _ => by rw [show (0 : Int) + 1 - 1 = (0 : Int) by omega, z]; exact hi5 (by decide)⟩)) (by omega)
            · skip
              refine j_aload_n jb dX2_chooseTurn_89 1 rfl ?_
              refine j_iload_n jb dX2_chooseTurn_90 0 rfl ?_
              refine j_put (ws' := [(h0, oX2 c0 a0 n 2 tn2 sm s0 r0 sb), (a0, aF x.g 4 (rf4 g0 g1 g2 g3)), (g0, oX8 k0 x0 kd0 ws0 b0 p0), (g1, oX8 k1 x1 kd1 ws1 b1 p1), (g2, oX8 k2 x2 kd2 ws2 b2 p2), (g3, oX8 k3 x3 kd3 ws3 b3 p3)]) jb f_X2_67 w_X2_5 rfl dX2_chooseTurn_91 0 rfl rfl rfl (Nat.le_of_ble_eq_true rfl) rfl ?_
              refine j_aload_n jb dX2_chooseTurn_94 1 rfl ?_
              refine j_iload_n jb dX2_chooseTurn_95 2 rfl ?_
              refine j_put (ws' := [(h0, oX2 c0 a0 n 2 0 sm s0 r0 sb), (a0, aF x.g 4 (rf4 g0 g1 g2 g3)), (g0, oX8 k0 x0 kd0 ws0 b0 p0), (g1, oX8 k1 x1 kd1 ws1 b1 p1), (g2, oX8 k2 x2 kd2 ws2 b2 p2), (g3, oX8 k3 x3 kd3 ws3 b3 p3)]) jb f_X2_61 w_X2_4 rfl dX2_chooseTurn_96 0 rfl rfl rfl (Nat.le_of_ble_eq_true rfl) rfl ?_
              refine j_iinc (lv' := [(1, .int (iI (0 + 1))), (2, .int (iI sm)), (0, .ref h0)]) jb dX2_chooseTurn_99 2 rfl (by decide) rfl ?_
              refine j_goto (tgt := 37) jb dX2_chooseTurn_102 (by decide) ?_
              refine j_norm (lv' := [(0, .ref h0), (1, .int (iI (0 + 1)))]) (st' := []) (ws' := [(h0, oX2 c0 a0 n 2 0 sm s0 r0 sb), (a0, aF x.g 4 (rf4 g0 g1 g2 g3)), (g0, oX8 k0 x0 kd0 ws0 b0 p0), (g1, oX8 k1 x1 kd1 ws1 b1 p1), (g2, oX8 k2 x2 kd2 ws2 b2 p2), (g3, oX8 k3 x3 kd3 ws3 b3 p3)]) [2, 0] [0, 1, 2, 3, 4, 5] rfl rfl (by decide) rfl ?_
              exact ih37 (0 + 1) 0 sm (by have hts : sm = (tSum (fb4 b0 b1 b2 b3)) (0 : Int).toNat := (by rw [e_sm]; rfl); first | (exact absurd (hi4 rfl) c_78) | (have z := pM_new (f := (tSum (fb4 b0 b1 b2 b3))) (i := (0 : Int)) (by decide) (by first | (left; rfl) | (right; rw [← hts, ← (hi5 (by decide)).1]; omega)); rw [← hts] at z; exact ⟨by omega, by omega, by omega, by omega, fun h => by omega, fun _ => by rw [show (0 : Int) + 1 - 1 = (0 : Int) by omega, z]; exact ⟨rfl, rfl, by omega⟩⟩) | (have z := pM_old (f := (tSum (fb4 b0 b1 b2 b3))) (i := (0 : Int)) (by decide) (by rw [← hts, ← (hi5 (by decide)).1]; omega); exact ⟨by omega, by omega, hi3, hi6, fun h => by omega, fun _ => by rw [show (0 : Int) + 1 - 1 = (0 : Int) by omega, z]; exact hi5 (by decide)⟩)) (by omega)
        · skip
          subst e
          refine j_bipush jb dX2_chooseTurn_42 (by decide) ?_
          refine j_aload_n jb dX2_chooseTurn_44 0 rfl ?_
          refine j_get jb f_X2_12 dX2_chooseTurn_45 0 rfl rfl ?_
          refine j_getsN jb jb.2.2.2.2.2.2.2.1.1.1 n_X2_68 dX2_chooseTurn_48 ?_
          refine j_iload_n jb dX2_chooseTurn_51 1 rfl ?_
          refine j_tald jb jb.2.2.2.2.2.2.2.1.1.2 (by decide) (by decide) dX2_chooseTurn_52 ?_
          refine j_topi 0 (by decide) ?_
          refine j_aaldF (b := g0) jb dX2_chooseTurn_53 1 rfl (by decide) (by decide) rfl ?_
          refine j_get jb f_X2_64 dX2_chooseTurn_54 2 rfl rfl ?_
          refine j_iadd jb dX2_chooseTurn_57 ?_
          refine j_aload_n jb dX2_chooseTurn_58 0 rfl ?_
          refine j_get jb f_X2_12 dX2_chooseTurn_59 0 rfl rfl ?_
          refine j_getsN jb jb.2.2.2.2.2.2.2.1.2.1.1 n_X2_71 dX2_chooseTurn_62 ?_
          refine j_iload_n jb dX2_chooseTurn_65 1 rfl ?_
          refine j_tald jb jb.2.2.2.2.2.2.2.1.2.1.2 (by decide) (by decide) dX2_chooseTurn_66 ?_
          refine j_topi 2 (by decide) ?_
          refine j_aaldF (b := g2) jb dX2_chooseTurn_67 1 rfl (by decide) (by decide) rfl ?_
          refine j_get jb f_X2_64 dX2_chooseTurn_68 4 rfl rfl ?_
          refine j_iadd jb dX2_chooseTurn_71 ?_
          refine j_geni (fun sm e_sm => ?_)
          refine j_istore_n (lv' := [(2, .int (iI sm)), (0, .ref h0), (1, .int (iI 1))]) jb dX2_chooseTurn_72 rfl (by decide) rfl ?_
          refine j_aload_n jb dX2_chooseTurn_73 1 rfl ?_
          refine j_get jb f_X2_67 dX2_chooseTurn_74 0 rfl rfl ?_
          refine j_iconst jb dX2_chooseTurn_77 ?_
          refine j_icmp_eq (tgt := 89) jb dX2_chooseTurn_78 (by decide) (by omega) (by omega) (fun c_78 => ?_) (fun c_78 => ?_)
          · skip
            refine j_aload_n jb dX2_chooseTurn_89 1 rfl ?_
            refine j_iload_n jb dX2_chooseTurn_90 0 rfl ?_
            refine j_put (ws' := [(h0, oX2 c0 a0 n 2 tn2 sm s0 r0 sb), (a0, aF x.g 4 (rf4 g0 g1 g2 g3)), (g0, oX8 k0 x0 kd0 ws0 b0 p0), (g1, oX8 k1 x1 kd1 ws1 b1 p1), (g2, oX8 k2 x2 kd2 ws2 b2 p2), (g3, oX8 k3 x3 kd3 ws3 b3 p3)]) jb f_X2_67 w_X2_5 rfl dX2_chooseTurn_91 0 rfl rfl rfl (Nat.le_of_ble_eq_true rfl) rfl ?_
            refine j_aload_n jb dX2_chooseTurn_94 1 rfl ?_
            refine j_iload_n jb dX2_chooseTurn_95 2 rfl ?_
            refine j_put (ws' := [(h0, oX2 c0 a0 n 2 1 sm s0 r0 sb), (a0, aF x.g 4 (rf4 g0 g1 g2 g3)), (g0, oX8 k0 x0 kd0 ws0 b0 p0), (g1, oX8 k1 x1 kd1 ws1 b1 p1), (g2, oX8 k2 x2 kd2 ws2 b2 p2), (g3, oX8 k3 x3 kd3 ws3 b3 p3)]) jb f_X2_61 w_X2_4 rfl dX2_chooseTurn_96 0 rfl rfl rfl (Nat.le_of_ble_eq_true rfl) rfl ?_
            refine j_iinc (lv' := [(1, .int (iI (1 + 1))), (2, .int (iI sm)), (0, .ref h0)]) jb dX2_chooseTurn_99 2 rfl (by decide) rfl ?_
            refine j_goto (tgt := 37) jb dX2_chooseTurn_102 (by decide) ?_
            refine j_norm (lv' := [(0, .ref h0), (1, .int (iI (1 + 1)))]) (st' := []) (ws' := [(h0, oX2 c0 a0 n 2 1 sm s0 r0 sb), (a0, aF x.g 4 (rf4 g0 g1 g2 g3)), (g0, oX8 k0 x0 kd0 ws0 b0 p0), (g1, oX8 k1 x1 kd1 ws1 b1 p1), (g2, oX8 k2 x2 kd2 ws2 b2 p2), (g3, oX8 k3 x3 kd3 ws3 b3 p3)]) [2, 0] [0, 1, 2, 3, 4, 5] rfl rfl (by decide) rfl ?_
            exact ih37 (1 + 1) 1 sm (by have hts : sm = (tSum (fb4 b0 b1 b2 b3)) (1 : Int).toNat := (by rw [e_sm]; rfl); first | (exact absurd (hi4 rfl) c_78) | (have z := pM_new (f := (tSum (fb4 b0 b1 b2 b3))) (i := (1 : Int)) (by decide) (by first | (left; rfl) | (right; rw [← hts, ← (hi5 (by decide)).1]; omega)); rw [← hts] at z; exact ⟨by omega, by omega, by omega, by omega, fun h => by omega, fun _ => by rw [show (1 : Int) + 1 - 1 = (1 : Int) by omega, z]; exact ⟨rfl, rfl, by omega⟩⟩) | (have z := pM_old (f := (tSum (fb4 b0 b1 b2 b3))) (i := (1 : Int)) (by decide) (by rw [← hts, ← (hi5 (by decide)).1]; omega); exact ⟨by omega, by omega, hi3, hi6, fun h => by omega, fun _ => by rw [show (1 : Int) + 1 - 1 = (1 : Int) by omega, z]; exact hi5 (by decide)⟩)) (by omega)
          · skip
            refine j_iload_n jb dX2_chooseTurn_81 0 rfl ?_
            refine j_aload_n jb dX2_chooseTurn_82 1 rfl ?_
            refine j_get jb f_X2_67 dX2_chooseTurn_83 0 rfl rfl ?_
            refine j_icmp_ge (tgt := 99) jb dX2_chooseTurn_86 (by decide) (by omega) (by omega) (fun c_86 => ?_) (fun c_86 => ?_)
            · skip
              refine j_iinc (lv' := [(1, .int (iI (1 + 1))), (2, .int (iI sm)), (0, .ref h0)]) jb dX2_chooseTurn_99 2 rfl (by decide) rfl ?_
              refine j_goto (tgt := 37) jb dX2_chooseTurn_102 (by decide) ?_
              refine j_norm (lv' := [(0, .ref h0), (1, .int (iI (1 + 1)))]) (st' := []) (ws' := [(h0, oX2 c0 a0 n 2 tn2 bi2 s0 r0 sb), (a0, aF x.g 4 (rf4 g0 g1 g2 g3)), (g0, oX8 k0 x0 kd0 ws0 b0 p0), (g1, oX8 k1 x1 kd1 ws1 b1 p1), (g2, oX8 k2 x2 kd2 ws2 b2 p2), (g3, oX8 k3 x3 kd3 ws3 b3 p3)]) [2, 0] [0, 1, 2, 3, 4, 5] rfl rfl (by decide) rfl ?_
              exact ih37 (1 + 1) tn2 bi2 (by have hts : sm = (tSum (fb4 b0 b1 b2 b3)) (1 : Int).toNat := (by rw [e_sm]; rfl); first | (exact absurd (hi4 rfl) c_78) | (have z := pM_new (f := (tSum (fb4 b0 b1 b2 b3))) (i := (1 : Int)) (by decide) (by first | (left; rfl) | (right; rw [← hts, ← (hi5 (by decide)).1]; omega)); rw [← hts] at z; exact ⟨by omega, by omega, by omega, by omega, fun h => by omega, fun _ => by rw [show (1 : Int) + 1 - 1 = (1 : Int) by omega, z]; exact ⟨rfl, rfl, by omega⟩⟩) | (have z := pM_old (f := (tSum (fb4 b0 b1 b2 b3))) (i := (1 : Int)) (by decide) (by rw [← hts, ← (hi5 (by decide)).1]; omega); exact ⟨by omega, by omega, hi3, hi6, fun h => by omega, fun _ => by rw [show (1 : Int) + 1 - 1 = (1 : Int) by omega, z]; exact hi5 (by decide)⟩)) (by omega)
            · skip
              refine j_aload_n jb dX2_chooseTurn_89 1 rfl ?_
              refine j_iload_n jb dX2_chooseTurn_90 0 rfl ?_
              refine j_put (ws' := [(h0, oX2 c0 a0 n 2 tn2 sm s0 r0 sb), (a0, aF x.g 4 (rf4 g0 g1 g2 g3)), (g0, oX8 k0 x0 kd0 ws0 b0 p0), (g1, oX8 k1 x1 kd1 ws1 b1 p1), (g2, oX8 k2 x2 kd2 ws2 b2 p2), (g3, oX8 k3 x3 kd3 ws3 b3 p3)]) jb f_X2_67 w_X2_5 rfl dX2_chooseTurn_91 0 rfl rfl rfl (Nat.le_of_ble_eq_true rfl) rfl ?_
              refine j_aload_n jb dX2_chooseTurn_94 1 rfl ?_
              refine j_iload_n jb dX2_chooseTurn_95 2 rfl ?_
              refine j_put (ws' := [(h0, oX2 c0 a0 n 2 1 sm s0 r0 sb), (a0, aF x.g 4 (rf4 g0 g1 g2 g3)), (g0, oX8 k0 x0 kd0 ws0 b0 p0), (g1, oX8 k1 x1 kd1 ws1 b1 p1), (g2, oX8 k2 x2 kd2 ws2 b2 p2), (g3, oX8 k3 x3 kd3 ws3 b3 p3)]) jb f_X2_61 w_X2_4 rfl dX2_chooseTurn_96 0 rfl rfl rfl (Nat.le_of_ble_eq_true rfl) rfl ?_
              refine j_iinc (lv' := [(1, .int (iI (1 + 1))), (2, .int (iI sm)), (0, .ref h0)]) jb dX2_chooseTurn_99 2 rfl (by decide) rfl ?_
              refine j_goto (tgt := 37) jb dX2_chooseTurn_102 (by decide) ?_
              refine j_norm (lv' := [(0, .ref h0), (1, .int (iI (1 + 1)))]) (st' := []) (ws' := [(h0, oX2 c0 a0 n 2 1 sm s0 r0 sb), (a0, aF x.g 4 (rf4 g0 g1 g2 g3)), (g0, oX8 k0 x0 kd0 ws0 b0 p0), (g1, oX8 k1 x1 kd1 ws1 b1 p1), (g2, oX8 k2 x2 kd2 ws2 b2 p2), (g3, oX8 k3 x3 kd3 ws3 b3 p3)]) [2, 0] [0, 1, 2, 3, 4, 5] rfl rfl (by decide) rfl ?_
              exact ih37 (1 + 1) 1 sm (by have hts : sm = (tSum (fb4 b0 b1 b2 b3)) (1 : Int).toNat := (by rw [e_sm]; rfl); first | (exact absurd (hi4 rfl) c_78) | (have z := pM_new (f := (tSum (fb4 b0 b1 b2 b3))) (i := (1 : Int)) (by decide) (by first | (left; rfl) | (right; rw [← hts, ← (hi5 (by decide)).1]; omega)); rw [← hts] at z; exact ⟨by omega, by omega, by omega, by omega, fun h => by omega, fun _ => by rw [show (1 : Int) + 1 - 1 = (1 : Int) by omega, z]; exact ⟨rfl, rfl, by omega⟩⟩) | (have z := pM_old (f := (tSum (fb4 b0 b1 b2 b3))) (i := (1 : Int)) (by decide) (by rw [← hts, ← (hi5 (by decide)).1]; omega); exact ⟨by omega, by omega, hi3, hi6, fun h => by omega, fun _ => by rw [show (1 : Int) + 1 - 1 = (1 : Int) by omega, z]; exact hi5 (by decide)⟩)) (by omega)
        · skip
          subst e
          refine j_bipush jb dX2_chooseTurn_42 (by decide) ?_
          refine j_aload_n jb dX2_chooseTurn_44 0 rfl ?_
          refine j_get jb f_X2_12 dX2_chooseTurn_45 0 rfl rfl ?_
          refine j_getsN jb jb.2.2.2.2.2.2.2.1.1.1 n_X2_68 dX2_chooseTurn_48 ?_
          refine j_iload_n jb dX2_chooseTurn_51 1 rfl ?_
          refine j_tald jb jb.2.2.2.2.2.2.2.1.1.2 (by decide) (by decide) dX2_chooseTurn_52 ?_
          refine j_topi 2 (by decide) ?_
          refine j_aaldF (b := g2) jb dX2_chooseTurn_53 1 rfl (by decide) (by decide) rfl ?_
          refine j_get jb f_X2_64 dX2_chooseTurn_54 4 rfl rfl ?_
          refine j_iadd jb dX2_chooseTurn_57 ?_
          refine j_aload_n jb dX2_chooseTurn_58 0 rfl ?_
          refine j_get jb f_X2_12 dX2_chooseTurn_59 0 rfl rfl ?_
          refine j_getsN jb jb.2.2.2.2.2.2.2.1.2.1.1 n_X2_71 dX2_chooseTurn_62 ?_
          refine j_iload_n jb dX2_chooseTurn_65 1 rfl ?_
          refine j_tald jb jb.2.2.2.2.2.2.2.1.2.1.2 (by decide) (by decide) dX2_chooseTurn_66 ?_
          refine j_topi 1 (by decide) ?_
          refine j_aaldF (b := g1) jb dX2_chooseTurn_67 1 rfl (by decide) (by decide) rfl ?_
          refine j_get jb f_X2_64 dX2_chooseTurn_68 3 rfl rfl ?_
          refine j_iadd jb dX2_chooseTurn_71 ?_
          refine j_geni (fun sm e_sm => ?_)
          refine j_istore_n (lv' := [(2, .int (iI sm)), (0, .ref h0), (1, .int (iI 2))]) jb dX2_chooseTurn_72 rfl (by decide) rfl ?_
          refine j_aload_n jb dX2_chooseTurn_73 1 rfl ?_
          refine j_get jb f_X2_67 dX2_chooseTurn_74 0 rfl rfl ?_
          refine j_iconst jb dX2_chooseTurn_77 ?_
          refine j_icmp_eq (tgt := 89) jb dX2_chooseTurn_78 (by decide) (by omega) (by omega) (fun c_78 => ?_) (fun c_78 => ?_)
          · skip
            refine j_aload_n jb dX2_chooseTurn_89 1 rfl ?_
            refine j_iload_n jb dX2_chooseTurn_90 0 rfl ?_
            refine j_put (ws' := [(h0, oX2 c0 a0 n 2 tn2 sm s0 r0 sb), (a0, aF x.g 4 (rf4 g0 g1 g2 g3)), (g0, oX8 k0 x0 kd0 ws0 b0 p0), (g1, oX8 k1 x1 kd1 ws1 b1 p1), (g2, oX8 k2 x2 kd2 ws2 b2 p2), (g3, oX8 k3 x3 kd3 ws3 b3 p3)]) jb f_X2_67 w_X2_5 rfl dX2_chooseTurn_91 0 rfl rfl rfl (Nat.le_of_ble_eq_true rfl) rfl ?_
            refine j_aload_n jb dX2_chooseTurn_94 1 rfl ?_
            refine j_iload_n jb dX2_chooseTurn_95 2 rfl ?_
            refine j_put (ws' := [(h0, oX2 c0 a0 n 2 2 sm s0 r0 sb), (a0, aF x.g 4 (rf4 g0 g1 g2 g3)), (g0, oX8 k0 x0 kd0 ws0 b0 p0), (g1, oX8 k1 x1 kd1 ws1 b1 p1), (g2, oX8 k2 x2 kd2 ws2 b2 p2), (g3, oX8 k3 x3 kd3 ws3 b3 p3)]) jb f_X2_61 w_X2_4 rfl dX2_chooseTurn_96 0 rfl rfl rfl (Nat.le_of_ble_eq_true rfl) rfl ?_
            refine j_iinc (lv' := [(1, .int (iI (2 + 1))), (2, .int (iI sm)), (0, .ref h0)]) jb dX2_chooseTurn_99 2 rfl (by decide) rfl ?_
            refine j_goto (tgt := 37) jb dX2_chooseTurn_102 (by decide) ?_
            refine j_norm (lv' := [(0, .ref h0), (1, .int (iI (2 + 1)))]) (st' := []) (ws' := [(h0, oX2 c0 a0 n 2 2 sm s0 r0 sb), (a0, aF x.g 4 (rf4 g0 g1 g2 g3)), (g0, oX8 k0 x0 kd0 ws0 b0 p0), (g1, oX8 k1 x1 kd1 ws1 b1 p1), (g2, oX8 k2 x2 kd2 ws2 b2 p2), (g3, oX8 k3 x3 kd3 ws3 b3 p3)]) [2, 0] [0, 1, 2, 3, 4, 5] rfl rfl (by decide) rfl ?_
            exact ih37 (2 + 1) 2 sm (by have hts : sm = (tSum (fb4 b0 b1 b2 b3)) (2 : Int).toNat := (by rw [e_sm]; rfl); first | (exact absurd (hi4 rfl) c_78) | (have z := pM_new (f := (tSum (fb4 b0 b1 b2 b3))) (i := (2 : Int)) (by decide) (by first | (left; rfl) | (right; rw [← hts, ← (hi5 (by decide)).1]; omega)); rw [← hts] at z; exact ⟨by omega, by omega, by omega, by omega, fun h => by omega, fun _ => by rw [show (2 : Int) + 1 - 1 = (2 : Int) by omega, z]; exact ⟨rfl, rfl, by omega⟩⟩) | (have z := pM_old (f := (tSum (fb4 b0 b1 b2 b3))) (i := (2 : Int)) (by decide) (by rw [← hts, ← (hi5 (by decide)).1]; omega); exact ⟨by omega, by omega, hi3, hi6, fun h => by omega, fun _ => by rw [show (2 : Int) + 1 - 1 = (2 : Int) by omega, z]; exact hi5 (by decide)⟩)) (by omega)
          · skip
            refine j_iload_n jb dX2_chooseTurn_81 0 rfl ?_
            refine j_aload_n jb dX2_chooseTurn_82 1 rfl ?_
            refine j_get jb f_X2_67 dX2_chooseTurn_83 0 rfl rfl ?_
            refine j_icmp_ge (tgt := 99) jb dX2_chooseTurn_86 (by decide) (by omega) (by omega) (fun c_86 => ?_) (fun c_86 => ?_)
            · skip
              refine j_iinc (lv' := [(1, .int (iI (2 + 1))), (2, .int (iI sm)), (0, .ref h0)]) jb dX2_chooseTurn_99 2 rfl (by decide) rfl ?_
              refine j_goto (tgt := 37) jb dX2_chooseTurn_102 (by decide) ?_
              refine j_norm (lv' := [(0, .ref h0), (1, .int (iI (2 + 1)))]) (st' := []) (ws' := [(h0, oX2 c0 a0 n 2 tn2 bi2 s0 r0 sb), (a0, aF x.g 4 (rf4 g0 g1 g2 g3)), (g0, oX8 k0 x0 kd0 ws0 b0 p0), (g1, oX8 k1 x1 kd1 ws1 b1 p1), (g2, oX8 k2 x2 kd2 ws2 b2 p2), (g3, oX8 k3 x3 kd3 ws3 b3 p3)]) [2, 0] [0, 1, 2, 3, 4, 5] rfl rfl (by decide) rfl ?_
              exact ih37 (2 + 1) tn2 bi2 (by have hts : sm = (tSum (fb4 b0 b1 b2 b3)) (2 : Int).toNat := (by rw [e_sm]; rfl); first | (exact absurd (hi4 rfl) c_78) | (have z := pM_new (f := (tSum (fb4 b0 b1 b2 b3))) (i := (2 : Int)) (by decide) (by first | (left; rfl) | (right; rw [← hts, ← (hi5 (by decide)).1]; omega)); rw [← hts] at z; exact ⟨by omega, by omega, by omega, by omega, fun h => by omega, fun _ => by rw [show (2 : Int) + 1 - 1 = (2 : Int) by omega, z]; exact ⟨rfl, rfl, by omega⟩⟩) | (have z := pM_old (f := (tSum (fb4 b0 b1 b2 b3))) (i := (2 : Int)) (by decide) (by rw [← hts, ← (hi5 (by decide)).1]; omega); exact ⟨by omega, by omega, hi3, hi6, fun h => by omega, fun _ => by rw [show (2 : Int) + 1 - 1 = (2 : Int) by omega, z]; exact hi5 (by decide)⟩)) (by omega)
            · skip
              refine j_aload_n jb dX2_chooseTurn_89 1 rfl ?_
              refine j_iload_n jb dX2_chooseTurn_90 0 rfl ?_
              refine j_put (ws' := [(h0, oX2 c0 a0 n 2 tn2 sm s0 r0 sb), (a0, aF x.g 4 (rf4 g0 g1 g2 g3)), (g0, oX8 k0 x0 kd0 ws0 b0 p0), (g1, oX8 k1 x1 kd1 ws1 b1 p1), (g2, oX8 k2 x2 kd2 ws2 b2 p2), (g3, oX8 k3 x3 kd3 ws3 b3 p3)]) jb f_X2_67 w_X2_5 rfl dX2_chooseTurn_91 0 rfl rfl rfl (Nat.le_of_ble_eq_true rfl) rfl ?_
              refine j_aload_n jb dX2_chooseTurn_94 1 rfl ?_
              refine j_iload_n jb dX2_chooseTurn_95 2 rfl ?_
              refine j_put (ws' := [(h0, oX2 c0 a0 n 2 2 sm s0 r0 sb), (a0, aF x.g 4 (rf4 g0 g1 g2 g3)), (g0, oX8 k0 x0 kd0 ws0 b0 p0), (g1, oX8 k1 x1 kd1 ws1 b1 p1), (g2, oX8 k2 x2 kd2 ws2 b2 p2), (g3, oX8 k3 x3 kd3 ws3 b3 p3)]) jb f_X2_61 w_X2_4 rfl dX2_chooseTurn_96 0 rfl rfl rfl (Nat.le_of_ble_eq_true rfl) rfl ?_
              refine j_iinc (lv' := [(1, .int (iI (2 + 1))), (2, .int (iI sm)), (0, .ref h0)]) jb dX2_chooseTurn_99 2 rfl (by decide) rfl ?_
              refine j_goto (tgt := 37) jb dX2_chooseTurn_102 (by decide) ?_
              refine j_norm (lv' := [(0, .ref h0), (1, .int (iI (2 + 1)))]) (st' := []) (ws' := [(h0, oX2 c0 a0 n 2 2 sm s0 r0 sb), (a0, aF x.g 4 (rf4 g0 g1 g2 g3)), (g0, oX8 k0 x0 kd0 ws0 b0 p0), (g1, oX8 k1 x1 kd1 ws1 b1 p1), (g2, oX8 k2 x2 kd2 ws2 b2 p2), (g3, oX8 k3 x3 kd3 ws3 b3 p3)]) [2, 0] [0, 1, 2, 3, 4, 5] rfl rfl (by decide) rfl ?_
              exact ih37 (2 + 1) 2 sm (by have hts : sm = (tSum (fb4 b0 b1 b2 b3)) (2 : Int).toNat := (by rw [e_sm]; rfl); first | (exact absurd (hi4 rfl) c_78) | (have z := pM_new (f := (tSum (fb4 b0 b1 b2 b3))) (i := (2 : Int)) (by decide) (by first | (left; rfl) | (right; rw [← hts, ← (hi5 (by decide)).1]; omega)); rw [← hts] at z; exact ⟨by omega, by omega, by omega, by omega, fun h => by omega, fun _ => by rw [show (2 : Int) + 1 - 1 = (2 : Int) by omega, z]; exact ⟨rfl, rfl, by omega⟩⟩) | (have z := pM_old (f := (tSum (fb4 b0 b1 b2 b3))) (i := (2 : Int)) (by decide) (by rw [← hts, ← (hi5 (by decide)).1]; omega); exact ⟨by omega, by omega, hi3, hi6, fun h => by omega, fun _ => by rw [show (2 : Int) + 1 - 1 = (2 : Int) by omega, z]; exact hi5 (by decide)⟩)) (by omega)
        · skip
          subst e
          refine j_bipush jb dX2_chooseTurn_42 (by decide) ?_
          refine j_aload_n jb dX2_chooseTurn_44 0 rfl ?_
          refine j_get jb f_X2_12 dX2_chooseTurn_45 0 rfl rfl ?_
          refine j_getsN jb jb.2.2.2.2.2.2.2.1.1.1 n_X2_68 dX2_chooseTurn_48 ?_
          refine j_iload_n jb dX2_chooseTurn_51 1 rfl ?_
          refine j_tald jb jb.2.2.2.2.2.2.2.1.1.2 (by decide) (by decide) dX2_chooseTurn_52 ?_
          refine j_topi 3 (by decide) ?_
          refine j_aaldF (b := g3) jb dX2_chooseTurn_53 1 rfl (by decide) (by decide) rfl ?_
          refine j_get jb f_X2_64 dX2_chooseTurn_54 5 rfl rfl ?_
          refine j_iadd jb dX2_chooseTurn_57 ?_
          refine j_aload_n jb dX2_chooseTurn_58 0 rfl ?_
          refine j_get jb f_X2_12 dX2_chooseTurn_59 0 rfl rfl ?_
          refine j_getsN jb jb.2.2.2.2.2.2.2.1.2.1.1 n_X2_71 dX2_chooseTurn_62 ?_
          refine j_iload_n jb dX2_chooseTurn_65 1 rfl ?_
          refine j_tald jb jb.2.2.2.2.2.2.2.1.2.1.2 (by decide) (by decide) dX2_chooseTurn_66 ?_
          refine j_topi 2 (by decide) ?_
          refine j_aaldF (b := g2) jb dX2_chooseTurn_67 1 rfl (by decide) (by decide) rfl ?_
          refine j_get jb f_X2_64 dX2_chooseTurn_68 4 rfl rfl ?_
          refine j_iadd jb dX2_chooseTurn_71 ?_
          refine j_geni (fun sm e_sm => ?_)
          refine j_istore_n (lv' := [(2, .int (iI sm)), (0, .ref h0), (1, .int (iI 3))]) jb dX2_chooseTurn_72 rfl (by decide) rfl ?_
          refine j_aload_n jb dX2_chooseTurn_73 1 rfl ?_
          refine j_get jb f_X2_67 dX2_chooseTurn_74 0 rfl rfl ?_
          refine j_iconst jb dX2_chooseTurn_77 ?_
          refine j_icmp_eq (tgt := 89) jb dX2_chooseTurn_78 (by decide) (by omega) (by omega) (fun c_78 => ?_) (fun c_78 => ?_)
          · skip
            refine j_aload_n jb dX2_chooseTurn_89 1 rfl ?_
            refine j_iload_n jb dX2_chooseTurn_90 0 rfl ?_
            refine j_put (ws' := [(h0, oX2 c0 a0 n 2 tn2 sm s0 r0 sb), (a0, aF x.g 4 (rf4 g0 g1 g2 g3)), (g0, oX8 k0 x0 kd0 ws0 b0 p0), (g1, oX8 k1 x1 kd1 ws1 b1 p1), (g2, oX8 k2 x2 kd2 ws2 b2 p2), (g3, oX8 k3 x3 kd3 ws3 b3 p3)]) jb f_X2_67 w_X2_5 rfl dX2_chooseTurn_91 0 rfl rfl rfl (Nat.le_of_ble_eq_true rfl) rfl ?_
            refine j_aload_n jb dX2_chooseTurn_94 1 rfl ?_
            refine j_iload_n jb dX2_chooseTurn_95 2 rfl ?_
            refine j_put (ws' := [(h0, oX2 c0 a0 n 2 3 sm s0 r0 sb), (a0, aF x.g 4 (rf4 g0 g1 g2 g3)), (g0, oX8 k0 x0 kd0 ws0 b0 p0), (g1, oX8 k1 x1 kd1 ws1 b1 p1), (g2, oX8 k2 x2 kd2 ws2 b2 p2), (g3, oX8 k3 x3 kd3 ws3 b3 p3)]) jb f_X2_61 w_X2_4 rfl dX2_chooseTurn_96 0 rfl rfl rfl (Nat.le_of_ble_eq_true rfl) rfl ?_
            refine j_iinc (lv' := [(1, .int (iI (3 + 1))), (2, .int (iI sm)), (0, .ref h0)]) jb dX2_chooseTurn_99 2 rfl (by decide) rfl ?_
            refine j_goto (tgt := 37) jb dX2_chooseTurn_102 (by decide) ?_
            refine j_norm (lv' := [(0, .ref h0), (1, .int (iI (3 + 1)))]) (st' := []) (ws' := [(h0, oX2 c0 a0 n 2 3 sm s0 r0 sb), (a0, aF x.g 4 (rf4 g0 g1 g2 g3)), (g0, oX8 k0 x0 kd0 ws0 b0 p0), (g1, oX8 k1 x1 kd1 ws1 b1 p1), (g2, oX8 k2 x2 kd2 ws2 b2 p2), (g3, oX8 k3 x3 kd3 ws3 b3 p3)]) [2, 0] [0, 1, 2, 3, 4, 5] rfl rfl (by decide) rfl ?_
            exact ih37 (3 + 1) 3 sm (by have hts : sm = (tSum (fb4 b0 b1 b2 b3)) (3 : Int).toNat := (by rw [e_sm]; rfl); first | (exact absurd (hi4 rfl) c_78) | (have z := pM_new (f := (tSum (fb4 b0 b1 b2 b3))) (i := (3 : Int)) (by decide) (by first | (left; rfl) | (right; rw [← hts, ← (hi5 (by decide)).1]; omega)); rw [← hts] at z; exact ⟨by omega, by omega, by omega, by omega, fun h => by omega, fun _ => by rw [show (3 : Int) + 1 - 1 = (3 : Int) by omega, z]; exact ⟨rfl, rfl, by omega⟩⟩) | (have z := pM_old (f := (tSum (fb4 b0 b1 b2 b3))) (i := (3 : Int)) (by decide) (by rw [← hts, ← (hi5 (by decide)).1]; omega); exact ⟨by omega, by omega, hi3, hi6, fun h => by omega, fun _ => by rw [show (3 : Int) + 1 - 1 = (3 : Int) by omega, z]; exact hi5 (by decide)⟩)) (by omega)
          · skip
            refine j_iload_n jb dX2_chooseTurn_81 0 rfl ?_
            refine j_aload_n jb dX2_chooseTurn_82 1 rfl ?_
            refine j_get jb f_X2_67 dX2_chooseTurn_83 0 rfl rfl ?_
            refine j_icmp_ge (tgt := 99) jb dX2_chooseTurn_86 (by decide) (by omega) (by omega) (fun c_86 => ?_) (fun c_86 => ?_)
            · skip
              refine j_iinc (lv' := [(1, .int (iI (3 + 1))), (2, .int (iI sm)), (0, .ref h0)]) jb dX2_chooseTurn_99 2 rfl (by decide) rfl ?_
              refine j_goto (tgt := 37) jb dX2_chooseTurn_102 (by decide) ?_
              refine j_norm (lv' := [(0, .ref h0), (1, .int (iI (3 + 1)))]) (st' := []) (ws' := [(h0, oX2 c0 a0 n 2 tn2 bi2 s0 r0 sb), (a0, aF x.g 4 (rf4 g0 g1 g2 g3)), (g0, oX8 k0 x0 kd0 ws0 b0 p0), (g1, oX8 k1 x1 kd1 ws1 b1 p1), (g2, oX8 k2 x2 kd2 ws2 b2 p2), (g3, oX8 k3 x3 kd3 ws3 b3 p3)]) [2, 0] [0, 1, 2, 3, 4, 5] rfl rfl (by decide) rfl ?_
              exact ih37 (3 + 1) tn2 bi2 (by have hts : sm = (tSum (fb4 b0 b1 b2 b3)) (3 : Int).toNat := (by rw [e_sm]; rfl); first | (exact absurd (hi4 rfl) c_78) | (have z := pM_new (f := (tSum (fb4 b0 b1 b2 b3))) (i := (3 : Int)) (by decide) (by first | (left; rfl) | (right; rw [← hts, ← (hi5 (by decide)).1]; omega)); rw [← hts] at z; exact ⟨by omega, by omega, by omega, by omega, fun h => by omega, fun _ => by rw [show (3 : Int) + 1 - 1 = (3 : Int) by omega, z]; exact ⟨rfl, rfl, by omega⟩⟩) | (have z := pM_old (f := (tSum (fb4 b0 b1 b2 b3))) (i := (3 : Int)) (by decide) (by rw [← hts, ← (hi5 (by decide)).1]; omega); exact ⟨by omega, by omega, hi3, hi6, fun h => by omega, fun _ => by rw [show (3 : Int) + 1 - 1 = (3 : Int) by omega, z]; exact hi5 (by decide)⟩)) (by omega)
            · skip
              refine j_aload_n jb dX2_chooseTurn_89 1 rfl ?_
              refine j_iload_n jb dX2_chooseTurn_90 0 rfl ?_
              refine j_put (ws' := [(h0, oX2 c0 a0 n 2 tn2 sm s0 r0 sb), (a0, aF x.g 4 (rf4 g0 g1 g2 g3)), (g0, oX8 k0 x0 kd0 ws0 b0 p0), (g1, oX8 k1 x1 kd1 ws1 b1 p1), (g2, oX8 k2 x2 kd2 ws2 b2 p2), (g3, oX8 k3 x3 kd3 ws3 b3 p3)]) jb f_X2_67 w_X2_5 rfl dX2_chooseTurn_91 0 rfl rfl rfl (Nat.le_of_ble_eq_true rfl) rfl ?_
              refine j_aload_n jb dX2_chooseTurn_94 1 rfl ?_
              refine j_iload_n jb dX2_chooseTurn_95 2 rfl ?_
              refine j_put (ws' := [(h0, oX2 c0 a0 n 2 3 sm s0 r0 sb), (a0, aF x.g 4 (rf4 g0 g1 g2 g3)), (g0, oX8 k0 x0 kd0 ws0 b0 p0), (g1, oX8 k1 x1 kd1 ws1 b1 p1), (g2, oX8 k2 x2 kd2 ws2 b2 p2), (g3, oX8 k3 x3 kd3 ws3 b3 p3)]) jb f_X2_61 w_X2_4 rfl dX2_chooseTurn_96 0 rfl rfl rfl (Nat.le_of_ble_eq_true rfl) rfl ?_
              refine j_iinc (lv' := [(1, .int (iI (3 + 1))), (2, .int (iI sm)), (0, .ref h0)]) jb dX2_chooseTurn_99 2 rfl (by decide) rfl ?_
              refine j_goto (tgt := 37) jb dX2_chooseTurn_102 (by decide) ?_
              refine j_norm (lv' := [(0, .ref h0), (1, .int (iI (3 + 1)))]) (st' := []) (ws' := [(h0, oX2 c0 a0 n 2 3 sm s0 r0 sb), (a0, aF x.g 4 (rf4 g0 g1 g2 g3)), (g0, oX8 k0 x0 kd0 ws0 b0 p0), (g1, oX8 k1 x1 kd1 ws1 b1 p1), (g2, oX8 k2 x2 kd2 ws2 b2 p2), (g3, oX8 k3 x3 kd3 ws3 b3 p3)]) [2, 0] [0, 1, 2, 3, 4, 5] rfl rfl (by decide) rfl ?_
              exact ih37 (3 + 1) 3 sm (by have hts : sm = (tSum (fb4 b0 b1 b2 b3)) (3 : Int).toNat := (by rw [e_sm]; rfl); first | (exact absurd (hi4 rfl) c_78) | (have z := pM_new (f := (tSum (fb4 b0 b1 b2 b3))) (i := (3 : Int)) (by decide) (by first | (left; rfl) | (right; rw [← hts, ← (hi5 (by decide)).1]; omega)); rw [← hts] at z; exact ⟨by omega, by omega, by omega, by omega, fun h => by omega, fun _ => by rw [show (3 : Int) + 1 - 1 = (3 : Int) by omega, z]; exact ⟨rfl, rfl, by omega⟩⟩) | (have z := pM_old (f := (tSum (fb4 b0 b1 b2 b3))) (i := (3 : Int)) (by decide) (by rw [← hts, ← (hi5 (by decide)).1]; omega); exact ⟨by omega, by omega, hi3, hi6, fun h => by omega, fun _ => by rw [show (3 : Int) + 1 - 1 = (3 : Int) by omega, z]; exact hi5 (by decide)⟩)) (by omega)
  refine j_norm (lv' := [(0, .ref h0), (1, .int (iI 0))]) (st' := []) (ws' := [(h0, oX2 c0 a0 n 2 0 (-1) s0 r0 sb), (a0, aF x.g 4 (rf4 g0 g1 g2 g3)), (g0, oX8 k0 x0 kd0 ws0 b0 p0), (g1, oX8 k1 x1 kd1 ws1 b1 p1), (g2, oX8 k2 x2 kd2 ws2 b2 p2), (g3, oX8 k3 x3 kd3 ws3 b3 p3)]) [1, 0] [0, 1, 2, 3, 4, 5] rfl rfl (by decide) rfl ?_
  exact L37 _ 0 0 (-1) ⟨by decide, by decide, by decide, by decide, fun _ => rfl, fun h => by omega⟩ (Nat.lt_succ_self _)

set_option maxHeartbeats 4000000 in
set_option maxRecDepth 100000 in
theorem C_X2_writeValues (l : Launch) (g : GG) (h0 c0 a0 s0 r0 v0 w0 x0 P0 t0 hv h1 : Nat) (n ch tn bi sb vn b w len fa pos : Int) (v B : Int → Int) (cnt : Int) (hc : 0 ≤ cnt ∧ cnt ≤ 400) (hb : 0 ≤ b ∧ b ≤ 17) (hB : isBytes B) (hv9 : ∀ j, 0 ≤ j → j < cnt → inR (v j)) (hp : 0 ≤ pos ∧ pos + (valsB v b cnt.toNat).length ≤ 19200) : Ctr l g yX2_writeValues cX2_writeValues 3 none 2 60 0 0 [.ref h0, .int (iI cnt)] [(h0, oX2 c0 a0 n ch tn bi s0 r0 sb), (c0, oX7 v0 w0 x0 P0 t0), (v0, oX10 hv vn b w), (hv, aI g 400 v), (s0, oX0 h1 len fa pos), (h1, aI g 2400 B)] (fun vv ww => ∃ (B2 : Int → Int) (pos2 : Int), vv = none ∧ ww = [(h0, oX2 c0 a0 n ch tn bi s0 r0 sb), (c0, oX7 v0 w0 x0 P0 t0), (v0, oX10 hv vn b w), (hv, aI g 400 v), (s0, oX0 h1 len fa pos2), (h1, aI g 2400 B2)] ∧ wrote 2400 B pos (valsB v b cnt.toNat) B2 ∧ pos2 = pos + (valsB v b cnt.toNat).length) := by
  refine Ctr.of [(0, .ref h0), (1, .int (iI cnt))] (by decide) (Nat.le_of_ble_eq_true rfl) rfl ?_
  intro x hxl hxg jb jr hin
  subst hxl; subst hxg
  refine j_iconst jb dX2_writeValues_0 ?_
  refine j_istore_n (lv' := [(2, .int (iI 0)), (0, .ref h0), (1, .int (iI cnt))]) jb dX2_writeValues_1 rfl (by decide) rfl ?_
  have L2 : ∀ (fu : Nat) (i p : Int) (B1 : Int → Int), (0 ≤ i ∧ i ≤ cnt ∧ p = pos + (valsB v b i.toNat).length ∧ wrote 2400 B pos (valsB v b i.toNat) B1) → (cnt - i).toNat < fu → JW x 0 0 2 [(0, .ref h0), (1, .int (iI cnt)), (2, .int (iI i))] [] [(h0, oX2 c0 a0 n ch tn bi s0 r0 sb), (c0, oX7 v0 w0 x0 P0 t0), (v0, oX10 hv vn b w), (hv, aI x.g 400 v), (s0, oX0 h1 len fa p), (h1, aI x.g 2400 B1)] := by
    intro fu
    induction fu with
    | zero => intro i p B1 _ hm; exact absurd hm (by omega)
    | succ fu ih =>
      intro i p B1 ⟨hi1, hi2, hi3, hi4⟩ hm2
      have ih2 := ih
      clear ih
      refine j_iload_n jb dX2_writeValues_2 2 rfl ?_
      refine j_iload_n jb dX2_writeValues_3 1 rfl ?_
      refine j_icmp_ge (tgt := 42) jb dX2_writeValues_4 (by decide) (by omega) (by omega) (fun c_4 => ?_) (fun c_4 => ?_)
      · skip
        refine j_norm (lv' := []) (st' := []) (ws' := [(h0, oX2 c0 a0 n ch tn bi s0 r0 sb), (c0, oX7 v0 w0 x0 P0 t0), (v0, oX10 hv vn b w), (hv, aI x.g 400 v), (s0, oX0 h1 len fa p), (h1, aI x.g 2400 B1)]) [] [0, 1, 2, 3, 4, 5] rfl rfl (by decide) rfl ?_
        exact j_vret jb jr dX2_writeValues_42 ⟨_, _, rfl, rfl, (by rw [show cnt = i by omega]; exact ⟨hi4, hi3⟩)⟩
      · skip
        refine j_aload_n jb dX2_writeValues_7 0 rfl ?_
        refine j_get jb f_X2_27 dX2_writeValues_8 0 rfl rfl ?_
        refine j_aload_n jb dX2_writeValues_11 0 rfl ?_
        refine j_get jb f_X2_23 dX2_writeValues_12 0 rfl rfl ?_
        refine j_get jb f_X2_100 dX2_writeValues_15 1 rfl rfl ?_
        refine j_get jb f_X2_123 dX2_writeValues_18 2 rfl rfl ?_
        refine j_iload_n jb dX2_writeValues_21 2 rfl ?_
        refine j_iald jb dX2_writeValues_22 3 rfl (by omega) (by decide) ?_
        refine j_aload_n jb dX2_writeValues_23 0 rfl ?_
        refine j_get jb f_X2_23 dX2_writeValues_24 0 rfl rfl ?_
        refine j_get jb f_X2_100 dX2_writeValues_27 1 rfl rfl ?_
        refine j_get jb f_X2_126 dX2_writeValues_30 2 rfl rfl ?_
        refine j_callV (wr := [(h0, oX2 c0 a0 n ch tn bi s0 r0 sb), (c0, oX7 v0 w0 x0 P0 t0), (v0, oX10 hv vn b w), (hv, aI x.g 400 v)]) jb k_X0_write i_X0_write s_X0_write l_X2_83 (C_X0_write x.l x.g s0 h1 B1 len fa p (v i) b hi4.1 (hv9 i hi1 (by omega)) (by omega) (by have z := valsB_room (v := v) (b := b) hi1 (show i < cnt by omega) hb.1; omega)) 4 2 rfl rfl rfl [4, 5] [0, 1, 2, 3] (by decide) rfl rfl (by decide) (by decide) rfl rfl (Nat.le_of_ble_eq_true rfl) (by decide) dX2_writeValues_33 (fun v w hp => ?_)
        obtain ⟨B3, p3, rfl, rfl, h33⟩ := hp
        refine j_norm (lv' := [(0, .ref h0), (1, .int (iI cnt)), (2, .int (iI i))]) (st' := []) (ws' := [(h0, oX2 c0 a0 n ch tn bi s0 r0 sb), (c0, oX7 v0 w0 x0 P0 t0), (v0, oX10 hv vn b w), (hv, aI x.g 400 v), (s0, oX0 h1 len fa p3), (h1, aI x.g 2400 B3)]) [0, 1, 2] [0, 1, 2, 3, 4, 5] rfl rfl (by decide) rfl ?_
        refine j_iinc (lv' := [(2, .int (iI (i + 1))), (0, .ref h0), (1, .int (iI cnt))]) jb dX2_writeValues_36 2 rfl (by decide) rfl ?_
        refine j_goto (tgt := 2) jb dX2_writeValues_39 (by decide) ?_
        refine j_norm (lv' := [(0, .ref h0), (1, .int (iI cnt)), (2, .int (iI (i + 1)))]) (st' := []) (ws' := [(h0, oX2 c0 a0 n ch tn bi s0 r0 sb), (c0, oX7 v0 w0 x0 P0 t0), (v0, oX10 hv vn b w), (hv, aI x.g 400 v), (s0, oX0 h1 len fa p3), (h1, aI x.g 2400 B3)]) [1, 2, 0] [0, 1, 2, 3, 4, 5] rfl rfl (by decide) rfl ?_
        exact ih2 (i + 1) p3 B3 (by have z := valsB_next (v := v) (b := b) hi1; exact ⟨by omega, by omega, by rw [z, List.length_append, nb_len]; omega, by rw [z]; exact wrote_app hi4 h33.1 hp.1 hi3⟩) (by omega)
  refine j_norm (lv' := [(0, .ref h0), (1, .int (iI cnt)), (2, .int (iI 0))]) (st' := []) (ws' := [(h0, oX2 c0 a0 n ch tn bi s0 r0 sb), (c0, oX7 v0 w0 x0 P0 t0), (v0, oX10 hv vn b w), (hv, aI x.g 400 v), (s0, oX0 h1 len fa pos), (h1, aI x.g 2400 B)]) [1, 2, 0] [0, 1, 2, 3, 4, 5] rfl rfl (by decide) rfl ?_
  exact L2 _ 0 pos B ⟨by decide, hc.1, by show pos = pos + ((0 : Nat) : Int); omega, wrote_nil hB⟩ (Nat.lt_succ_self _)

set_option maxHeartbeats 4000000 in
set_option maxRecDepth 100000 in
theorem C_X2_writeRests (l : Launch) (g : GG) (h0 c0 a0 s0 r0 v0 w0 x0 P0 t0 hv h1 q0 qc : Nat) (n ch tn bi sb vn b w len fa pos : Int) (v B cf : Int → Int) (o sh fr to k xx : Int) (ho : 0 ≤ o ∧ o ≤ 4) (hs : 0 ≤ sh ∧ sh ≤ 15) (hcf : cfOk cf) (hv9 : vOk v to) (hft : o ≤ fr ∧ fr ≤ to ∧ to ≤ 400) (hk : 0 ≤ k ∧ k ≤ 15) (hx : k = 15 → 0 ≤ xx ∧ xx ≤ 24) (hU : ∀ i, fr ≤ i → i < to → rests v cf o sh i < 16777216) (hB : isBytes B) (hp : 0 ≤ pos ∧ pos + (restsB (rests v cf o sh) k xx fr (to - fr).toNat).length ≤ 19200) : Ctr l g yX2_writeRests cX2_writeRests 8 none 3 120 0 0 [.ref h0, .ref q0, .int (iI fr), .int (iI to), .int (iI k), .int (iI xx)] [(h0, oX2 c0 a0 n ch tn bi s0 r0 sb), (c0, oX7 v0 w0 x0 P0 t0), (v0, oX10 hv vn b w), (hv, aI g 400 v), (s0, oX0 h1 len fa pos), (h1, aI g 2400 B), (q0, oX1 qc o sh), (qc, aI g 4 cf)] (fun vv ww => ∃ (B2 : Int → Int) (pos2 : Int), vv = none ∧ ww = [(h0, oX2 c0 a0 n ch tn bi s0 r0 sb), (c0, oX7 v0 w0 x0 P0 t0), (v0, oX10 hv vn b w), (hv, aI g 400 v), (s0, oX0 h1 len fa pos2), (h1, aI g 2400 B2), (q0, oX1 qc o sh), (qc, aI g 4 cf)] ∧ wrote 2400 B pos (restsB (rests v cf o sh) k xx fr (to - fr).toNat) B2 ∧ pos2 = pos + (restsB (rests v cf o sh) k xx fr (to - fr).toNat).length) := by
  refine Ctr.of [(0, .ref h0), (1, .ref q0), (2, .int (iI fr)), (3, .int (iI to)), (4, .int (iI k)), (5, .int (iI xx))] (by decide) (Nat.le_of_ble_eq_true rfl) rfl ?_
  intro x hxl hxg jb jr hin
  subst hxl; subst hxg
  refine j_iload_n jb dX2_writeRests_0 2 rfl ?_
  refine j_istore (lv' := [(6, .int (iI fr)), (0, .ref h0), (1, .ref q0), (2, .int (iI fr)), (3, .int (iI to)), (4, .int (iI k)), (5, .int (iI xx))]) jb dX2_writeRests_1 (by decide) rfl ?_
  have L3 : ∀ (fu : Nat) (i p : Int) (B1 : Int → Int), (fr ≤ i ∧ i ≤ to ∧ p = pos + (restsB (rests v cf o sh) k xx fr (i - fr).toNat).length ∧ wrote 2400 B pos (restsB (rests v cf o sh) k xx fr (i - fr).toNat) B1) → (to - i).toNat < fu → JW x 0 0 3 [(0, .ref h0), (1, .ref q0), (2, .int (iI fr)), (3, .int (iI to)), (4, .int (iI k)), (5, .int (iI xx)), (6, .int (iI i))] [] [(h0, oX2 c0 a0 n ch tn bi s0 r0 sb), (c0, oX7 v0 w0 x0 P0 t0), (v0, oX10 hv vn b w), (hv, aI x.g 400 v), (s0, oX0 h1 len fa p), (h1, aI x.g 2400 B1), (q0, oX1 qc o sh), (qc, aI x.g 4 cf)] := by
    intro fu
    induction fu with
    | zero => intro i p B1 _ hm; exact absurd hm (by omega)
    | succ fu ih =>
      intro i p B1 ⟨hi1, hi2, hi3, hi4⟩ hm3
      have ih3 := ih
      clear ih
      refine j_iload jb dX2_writeRests_3 6 rfl ?_
      refine j_iload_n jb dX2_writeRests_5 3 rfl ?_
      refine j_icmp_ge (tgt := 65) jb dX2_writeRests_6 (by decide) (by omega) (by omega) (fun c_6 => ?_) (fun c_6 => ?_)
      · skip
        refine j_norm (lv' := []) (st' := []) (ws' := [(h0, oX2 c0 a0 n ch tn bi s0 r0 sb), (c0, oX7 v0 w0 x0 P0 t0), (v0, oX10 hv vn b w), (hv, aI x.g 400 v), (s0, oX0 h1 len fa p), (h1, aI x.g 2400 B1), (q0, oX1 qc o sh), (qc, aI x.g 4 cf)]) [] [0, 1, 2, 3, 4, 5, 6, 7] rfl rfl (by decide) rfl ?_
        exact j_vret jb jr dX2_writeRests_65 ⟨_, _, rfl, rfl, (by rw [show to = i by omega]; exact ⟨hi4, hi3⟩)⟩
      · skip
        refine j_aload_n jb dX2_writeRests_9 0 rfl ?_
        refine j_get jb f_X2_23 dX2_writeRests_10 0 rfl rfl ?_
        refine j_get jb f_X2_100 dX2_writeRests_13 1 rfl rfl ?_
        refine j_aload_n jb dX2_writeRests_16 1 rfl ?_
        refine j_iload jb dX2_writeRests_17 6 rfl ?_
        refine j_callV (wr := [(h0, oX2 c0 a0 n ch tn bi s0 r0 sb), (c0, oX7 v0 w0 x0 P0 t0), (s0, oX0 h1 len fa p), (h1, aI x.g 2400 B1)]) jb k_X10_foldedRest i_X10_foldedRest s_X10_foldedRest l_X2_160 (C_X10_foldedRest x.l x.g v0 hv q0 qc v cf vn b w o sh i (by omega) (by omega) (by omega) hcf (fun j h1 h2 => hv9 j h1 (by omega))) 2 12 rfl rfl rfl [2, 3, 6, 7] [0, 1, 4, 5] (by decide) rfl rfl (by decide) (by decide) rfl rfl (Nat.le_of_ble_eq_true rfl) (by decide) dX2_writeRests_19 (fun v w hp => ?_)
        obtain ⟨u, rfl, rfl, hu⟩ := hp
        refine j_norm (lv' := [(0, .ref h0), (1, .ref q0), (2, .int (iI fr)), (3, .int (iI to)), (4, .int (iI k)), (5, .int (iI xx)), (6, .int (iI i))]) (st' := [.int (iI u)]) (ws' := [(h0, oX2 c0 a0 n ch tn bi s0 r0 sb), (c0, oX7 v0 w0 x0 P0 t0), (v0, oX10 hv vn b w), (hv, aI x.g 400 v), (s0, oX0 h1 len fa p), (h1, aI x.g 2400 B1), (q0, oX1 qc o sh), (qc, aI x.g 4 cf)]) [0, 1, 2, 3, 4, 5, 6] [0, 1, 4, 5, 2, 3, 6, 7] rfl rfl (by decide) rfl ?_
        have hu : u = (rests v cf o sh) i := hu
        have hun : 0 ≤ u ∧ u < 16777216 := by (rw [hu]; exact ⟨fld_nn _, hU i hi1 (by omega)⟩)
        have hrm := restsB_room (U := (rests v cf o sh)) (k := k) (x := xx) hi1 (show i < to by omega)
        rw [← hu] at hrm
        refine j_istore (lv' := [(7, .int (iI u)), (0, .ref h0), (1, .ref q0), (2, .int (iI fr)), (3, .int (iI to)), (4, .int (iI k)), (5, .int (iI xx)), (6, .int (iI i))]) jb dX2_writeRests_22 (by decide) rfl ?_
        refine j_iload jb dX2_writeRests_24 5 rfl ?_
        refine j_bipush jb dX2_writeRests_26 (by decide) ?_
        refine j_icmp_ne (tgt := 48) jb dX2_writeRests_28 (by decide) (by omega) (by omega) (fun c_28 => ?_) (fun c_28 => ?_)
        · skip
          refine j_aload_n jb dX2_writeRests_48 1 rfl ?_
          refine j_get jb f_X2_27 dX2_writeRests_49 0 rfl rfl ?_
          refine j_iload jb dX2_writeRests_52 0 rfl ?_
          refine j_iload jb dX2_writeRests_54 5 rfl ?_
          refine j_callV (wr := [(h0, oX2 c0 a0 n ch tn bi s0 r0 sb), (c0, oX7 v0 w0 x0 P0 t0), (v0, oX10 hv vn b w), (hv, aI x.g 400 v), (q0, oX1 qc o sh), (qc, aI x.g 4 cf)]) jb k_X0_writeFolded i_X0_writeFolded s_X0_writeFolded l_X2_168 (C_X0_writeFolded x.l x.g s0 h1 B1 len fa p u k hi4.1 hun (by omega) (by have zl := restB_len (u := u) (x := xx) c_28 hun.1 hk.1; omega)) 4 2 rfl rfl rfl [4, 5] [0, 1, 2, 3, 6, 7] (by decide) rfl rfl (by decide) (by decide) rfl rfl (Nat.le_of_ble_eq_true rfl) (by decide) dX2_writeRests_56 (fun v w hp => ?_)
          obtain ⟨B3, p3, rfl, rfl, h56⟩ := hp
          refine j_norm (lv' := [(7, .int (iI u)), (0, .ref h0), (1, .ref q0), (2, .int (iI fr)), (3, .int (iI to)), (4, .int (iI k)), (5, .int (iI xx)), (6, .int (iI i))]) (st' := []) (ws' := [(h0, oX2 c0 a0 n ch tn bi s0 r0 sb), (c0, oX7 v0 w0 x0 P0 t0), (v0, oX10 hv vn b w), (hv, aI x.g 400 v), (s0, oX0 h1 len fa p3), (h1, aI x.g 2400 B3), (q0, oX1 qc o sh), (qc, aI x.g 4 cf)]) [0, 1, 2, 3, 4, 5, 6, 7] [0, 1, 2, 3, 6, 7, 4, 5] rfl rfl (by decide) rfl ?_
          refine j_iinc (lv' := [(6, .int (iI (i + 1))), (7, .int (iI u)), (0, .ref h0), (1, .ref q0), (2, .int (iI fr)), (3, .int (iI to)), (4, .int (iI k)), (5, .int (iI xx))]) jb dX2_writeRests_59 7 rfl (by decide) rfl ?_
          refine j_goto (tgt := 3) jb dX2_writeRests_62 (by decide) ?_
          refine j_norm (lv' := [(0, .ref h0), (1, .ref q0), (2, .int (iI fr)), (3, .int (iI to)), (4, .int (iI k)), (5, .int (iI xx)), (6, .int (iI (i + 1)))]) (st' := []) (ws' := [(h0, oX2 c0 a0 n ch tn bi s0 r0 sb), (c0, oX7 v0 w0 x0 P0 t0), (v0, oX10 hv vn b w), (hv, aI x.g 400 v), (s0, oX0 h1 len fa p3), (h1, aI x.g 2400 B3), (q0, oX1 qc o sh), (qc, aI x.g 4 cf)]) [2, 3, 4, 5, 6, 7, 0] [0, 1, 2, 3, 4, 5, 6, 7] rfl rfl (by decide) rfl ?_
          exact ih3 (i + 1) p3 B3 (by have z := restsB_next (U := (rests v cf o sh)) (k := k) (x := xx) hi1; rw [← hu] at z; first | (have zz := @restB_15 u xx; rw [← c_28] at zz; rw [h37, hu2] at h42; rw [zz] at z; exact ⟨by omega, by omega, by rw [z, List.length_append, nb_len]; omega, by rw [z]; exact wrote_app hi4 h42.1 hp.1 hi3⟩) | (have zz := restB_k (u := u) (x := xx) c_28; have zl := restB_len (u := u) (x := xx) c_28 hun.1 hk.1; rw [← zz] at h56; exact ⟨by omega, by omega, by rw [z, List.length_append]; omega, by rw [z]; exact wrote_app hi4 h56.1 hp.1 hi3⟩)) (by omega)
        · skip
          refine j_aload_n jb dX2_writeRests_31 1 rfl ?_
          refine j_get jb f_X2_27 dX2_writeRests_32 0 rfl rfl ?_
          refine j_iload jb dX2_writeRests_35 0 rfl ?_
          refine j_callSN (wr := [(h0, oX2 c0 a0 n ch tn bi s0 r0 sb), (c0, oX7 v0 w0 x0 P0 t0), (v0, oX10 hv vn b w), (hv, aI x.g 400 v), (s0, oX0 h1 len fa p), (h1, aI x.g 2400 B1), (q0, oX1 qc o sh), (qc, aI x.g 4 cf)]) jb k_X11_unfold t_X11_unfold n_X2_164 (C_X11_unfold x.l x.g u (by omega)) [] [0, 1, 2, 3, 4, 5, 6, 7] (by decide) rfl rfl (by decide) (by decide) rfl rfl (Nat.le_of_ble_eq_true rfl) (by decide) dX2_writeRests_37 (fun v w hp => ?_)
          obtain ⟨e, rfl, rfl, h37⟩ := hp
          refine j_norm (lv' := [(7, .int (iI u)), (0, .ref h0), (1, .ref q0), (2, .int (iI fr)), (3, .int (iI to)), (4, .int (iI k)), (5, .int (iI xx)), (6, .int (iI i))]) (st' := [.int (iI e), .ref s0]) (ws' := [(h0, oX2 c0 a0 n ch tn bi s0 r0 sb), (c0, oX7 v0 w0 x0 P0 t0), (v0, oX10 hv vn b w), (hv, aI x.g 400 v), (s0, oX0 h1 len fa p), (h1, aI x.g 2400 B1), (q0, oX1 qc o sh), (qc, aI x.g 4 cf)]) [0, 1, 2, 3, 4, 5, 6, 7] [0, 1, 2, 3, 4, 5, 6, 7] rfl rfl (by decide) rfl ?_
          have hu2 : unf u = unf u := rfl
          have hue := unf_in hun
          rw [← h37] at hue
          refine j_iload jb dX2_writeRests_40 6 rfl ?_
          refine j_callV (wr := [(h0, oX2 c0 a0 n ch tn bi s0 r0 sb), (c0, oX7 v0 w0 x0 P0 t0), (v0, oX10 hv vn b w), (hv, aI x.g 400 v), (q0, oX1 qc o sh), (qc, aI x.g 4 cf)]) jb k_X0_write i_X0_write s_X0_write l_X2_83 (C_X0_write x.l x.g s0 h1 B1 len fa p e xx hi4.1 (by omega) (by have := hx c_28; omega) (by have := hx c_28; have zz := @restB_15 u xx; rw [← c_28] at zz; rw [zz, nb_len] at hrm; omega)) 4 2 rfl rfl rfl [4, 5] [0, 1, 2, 3, 6, 7] (by decide) rfl rfl (by decide) (by decide) rfl rfl (Nat.le_of_ble_eq_true rfl) (by decide) dX2_writeRests_42 (fun v w hp => ?_)
          obtain ⟨B3, p3, rfl, rfl, h42⟩ := hp
          refine j_norm (lv' := [(7, .int (iI u)), (0, .ref h0), (1, .ref q0), (2, .int (iI fr)), (3, .int (iI to)), (4, .int (iI k)), (5, .int (iI xx)), (6, .int (iI i))]) (st' := []) (ws' := [(h0, oX2 c0 a0 n ch tn bi s0 r0 sb), (c0, oX7 v0 w0 x0 P0 t0), (v0, oX10 hv vn b w), (hv, aI x.g 400 v), (s0, oX0 h1 len fa p3), (h1, aI x.g 2400 B3), (q0, oX1 qc o sh), (qc, aI x.g 4 cf)]) [0, 1, 2, 3, 4, 5, 6, 7] [0, 1, 2, 3, 6, 7, 4, 5] rfl rfl (by decide) rfl ?_
          refine j_goto (tgt := 59) jb dX2_writeRests_45 (by decide) ?_
          refine j_iinc (lv' := [(6, .int (iI (i + 1))), (7, .int (iI u)), (0, .ref h0), (1, .ref q0), (2, .int (iI fr)), (3, .int (iI to)), (4, .int (iI k)), (5, .int (iI xx))]) jb dX2_writeRests_59 7 rfl (by decide) rfl ?_
          refine j_goto (tgt := 3) jb dX2_writeRests_62 (by decide) ?_
          refine j_norm (lv' := [(0, .ref h0), (1, .ref q0), (2, .int (iI fr)), (3, .int (iI to)), (4, .int (iI k)), (5, .int (iI xx)), (6, .int (iI (i + 1)))]) (st' := []) (ws' := [(h0, oX2 c0 a0 n ch tn bi s0 r0 sb), (c0, oX7 v0 w0 x0 P0 t0), (v0, oX10 hv vn b w), (hv, aI x.g 400 v), (s0, oX0 h1 len fa p3), (h1, aI x.g 2400 B3), (q0, oX1 qc o sh), (qc, aI x.g 4 cf)]) [2, 3, 4, 5, 6, 7, 0] [0, 1, 2, 3, 4, 5, 6, 7] rfl rfl (by decide) rfl ?_
          exact ih3 (i + 1) p3 B3 (by have z := restsB_next (U := (rests v cf o sh)) (k := k) (x := xx) hi1; rw [← hu] at z; first | (have zz := @restB_15 u xx; rw [← c_28] at zz; rw [h37, hu2] at h42; rw [zz] at z; exact ⟨by omega, by omega, by rw [z, List.length_append, nb_len]; omega, by rw [z]; exact wrote_app hi4 h42.1 hp.1 hi3⟩) | (have zz := restB_k (u := u) (x := xx) c_28; have zl := restB_len (u := u) (x := xx) c_28 hun.1 hk.1; rw [← zz] at h56; exact ⟨by omega, by omega, by rw [z, List.length_append]; omega, by rw [z]; exact wrote_app hi4 h56.1 hp.1 hi3⟩)) (by omega)
  refine j_norm (lv' := [(0, .ref h0), (1, .ref q0), (2, .int (iI fr)), (3, .int (iI to)), (4, .int (iI k)), (5, .int (iI xx)), (6, .int (iI fr))]) (st' := []) (ws' := [(h0, oX2 c0 a0 n ch tn bi s0 r0 sb), (c0, oX7 v0 w0 x0 P0 t0), (v0, oX10 hv vn b w), (hv, aI x.g 400 v), (s0, oX0 h1 len fa pos), (h1, aI x.g 2400 B), (q0, oX1 qc o sh), (qc, aI x.g 4 cf)]) [1, 2, 3, 4, 5, 6, 0] [0, 1, 2, 3, 4, 5, 6, 7] rfl rfl (by decide) rfl ?_
  exact L3 _ fr pos B ⟨Int.le_refl _, hft.2.1, by rw [Int.sub_self]; show pos = pos + ((0 : Nat) : Int); omega, by rw [Int.sub_self]; exact wrote_nil hB⟩ (Nat.lt_succ_self _)

