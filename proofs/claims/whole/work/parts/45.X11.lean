set_option maxHeartbeats 4000000 in
set_option maxRecDepth 100000 in
theorem C_X11_depth (l : Launch) (g : GG) (m0 sa ct ow s0 pk pd rd op sp : Nat) (sb b : Int) (cn : Int → Int) (hcn : (0 ≤ cn 0 ∧ cn 0 ≤ 400) ∧ (0 ≤ cn 1 ∧ cn 1 ≤ 400)) (hb : inR b) : Ctr l g yX11_depth cX11_depth 3 (some .int) 0 0 0 0 [.ref m0, .int (iI b)] [(m0, oX11 sa ct sb ow s0 pk pd rd op sp), (ct, aI g 2 cn)] (fun vv ww => ∃ (r sb2 : Int), vv = some (.int (iI r)) ∧ ww = [(m0, oX11 sa ct sb2 ow s0 pk pd rd op sp), (ct, aI g 2 cn)] ∧ (¬ (1 ≤ b ∧ b ≤ 16) → r = -2 ∧ sb2 = sb) ∧ ((1 ≤ b ∧ b ≤ 16) ∧ (¬ cn 0 = 0 ∨ ¬ cn 1 = 0) → r = -3 ∧ sb2 = sb) ∧ ((1 ≤ b ∧ b ≤ 16) ∧ cn 0 = 0 ∧ cn 1 = 0 → r = sb ∧ sb2 = b)) := by
  refine Ctr.of [(0, .ref m0), (1, .int (iI b))] (by decide) (Nat.le_of_ble_eq_true rfl) rfl ?_
  intro x hxl hxg jb jr hin
  subst hxl; subst hxg
  refine j_iload_n jb dX11_depth_0 1 rfl ?_
  refine j_iconst jb dX11_depth_1 ?_
  refine j_icmp_lt (tgt := 11) jb dX11_depth_2 (by decide) (by omega) (by omega) (fun c_2 => ?_) (fun c_2 => ?_)
  · skip
    refine j_bipush jb dX11_depth_11 (by decide) ?_
    refine j_norm (lv' := []) (st' := [.int (iI (-2))]) (ws' := [(m0, oX11 sa ct sb ow s0 pk pd rd op sp), (ct, aI x.g 2 cn)]) [] [0, 1] rfl rfl (by decide) rfl ?_
    exact j_iret jb jr dX11_depth_13 ⟨_, _, rfl, rfl, (by omega)⟩
  · skip
    refine j_iload_n jb dX11_depth_5 1 rfl ?_
    refine j_bipush jb dX11_depth_6 (by decide) ?_
    refine j_icmp_le (tgt := 14) jb dX11_depth_8 (by decide) (by omega) (by omega) (fun c_8 => ?_) (fun c_8 => ?_)
    · skip
      refine j_aload_n jb dX11_depth_14 0 rfl ?_
      refine j_get jb f_X11_14 dX11_depth_15 0 rfl rfl ?_
      refine j_iconst jb dX11_depth_18 ?_
      refine j_iald jb dX11_depth_19 1 rfl (by omega) (by decide) ?_
      refine j_if_ne (tgt := 32) jb dX11_depth_20 (by decide) (by omega) (fun c_20 => ?_) (fun c_20 => ?_)
      · skip
        refine j_bipush jb dX11_depth_32 (by decide) ?_
        refine j_norm (lv' := []) (st' := [.int (iI (-3))]) (ws' := [(m0, oX11 sa ct sb ow s0 pk pd rd op sp), (ct, aI x.g 2 cn)]) [] [0, 1] rfl rfl (by decide) rfl ?_
        exact j_iret jb jr dX11_depth_34 ⟨_, _, rfl, rfl, (by omega)⟩
      · skip
        refine j_aload_n jb dX11_depth_23 0 rfl ?_
        refine j_get jb f_X11_14 dX11_depth_24 0 rfl rfl ?_
        refine j_iconst jb dX11_depth_27 ?_
        refine j_iald jb dX11_depth_28 1 rfl (by omega) (by decide) ?_
        refine j_if_eq (tgt := 35) jb dX11_depth_29 (by decide) (by omega) (fun c_29 => ?_) (fun c_29 => ?_)
        · skip
          refine j_aload_n jb dX11_depth_35 0 rfl ?_
          refine j_get jb f_X11_18 dX11_depth_36 0 rfl rfl ?_
          refine j_istore_n (lv' := [(2, .int (iI sb)), (0, .ref m0), (1, .int (iI b))]) jb dX11_depth_39 rfl (by decide) rfl ?_
          refine j_aload_n jb dX11_depth_40 1 rfl ?_
          refine j_iload_n jb dX11_depth_41 2 rfl ?_
          refine j_put (ws' := [(m0, oX11 sa ct b ow s0 pk pd rd op sp), (ct, aI x.g 2 cn)]) jb f_X11_18 w_X11_2 rfl dX11_depth_42 0 rfl rfl rfl (Nat.le_of_ble_eq_true rfl) rfl ?_
          refine j_iload_n jb dX11_depth_45 0 rfl ?_
          refine j_norm (lv' := []) (st' := [.int (iI sb)]) (ws' := [(m0, oX11 sa ct b ow s0 pk pd rd op sp), (ct, aI x.g 2 cn)]) [] [0, 1] rfl rfl (by decide) rfl ?_
          exact j_iret jb jr dX11_depth_46 ⟨_, _, rfl, rfl, (by omega)⟩
        · skip
          refine j_bipush jb dX11_depth_32 (by decide) ?_
          refine j_norm (lv' := []) (st' := [.int (iI (-3))]) (ws' := [(m0, oX11 sa ct sb ow s0 pk pd rd op sp), (ct, aI x.g 2 cn)]) [] [0, 1] rfl rfl (by decide) rfl ?_
          exact j_iret jb jr dX11_depth_34 ⟨_, _, rfl, rfl, (by omega)⟩
    · skip
      refine j_bipush jb dX11_depth_11 (by decide) ?_
      refine j_norm (lv' := []) (st' := [.int (iI (-2))]) (ws' := [(m0, oX11 sa ct sb ow s0 pk pd rd op sp), (ct, aI x.g 2 cn)]) [] [0, 1] rfl rfl (by decide) rfl ?_
      exact j_iret jb jr dX11_depth_13 ⟨_, _, rfl, rfl, (by omega)⟩

set_option maxHeartbeats 4000000 in
set_option maxRecDepth 100000 in
theorem C_X11_sample (l : Launch) (g : GG) (m0 sa ct ow s0 pk pd rd op sp : Nat) (q0 q1 : Nat) (sb ch z : Int) (cn f0 f1 : Int → Int) (hcn : (0 ≤ cn 0 ∧ cn 0 ≤ 400) ∧ (0 ≤ cn 1 ∧ cn 1 ≤ 400)) (hc : inR ch) (hz : inR z) (hsb : 1 ≤ sb ∧ sb ≤ 16) : Ctr l g yX11_sample cX11_sample 4 (some .int) 1 30 0 0 [.ref m0, .int (iI ch), .int (iI z)] [(m0, oX11 sa ct sb ow s0 pk pd rd op sp), (ct, aI g 2 cn), (sa, aG g 2 (rf2 q0 q1)), (q0, aI g 400 f0), (q1, aI g 400 f1)] (fun vv ww => ∃ (r : Int) (cn2 e0 e1 : Int → Int), vv = some (.int (iI r)) ∧ ww = [(m0, oX11 sa ct sb ow s0 pk pd rd op sp), (ct, aI g 2 cn2), (sa, aG g 2 (rf2 q0 q1)), (q0, aI g 400 e0), (q1, aI g 400 e1)] ∧ ((¬ (0 ≤ ch ∧ ch < 2) ∨ ¬ fit z sb) → r = -2 ∧ cn2 = cn ∧ e0 = f0 ∧ e1 = f1) ∧ (¬ (¬ (0 ≤ ch ∧ ch < 2) ∨ ¬ fit z sb) ∧ 400 ≤ cn ch → r = -4 ∧ cn2 = cn ∧ e0 = f0 ∧ e1 = f1) ∧ (¬ (¬ (0 ≤ ch ∧ ch < 2) ∨ ¬ fit z sb) ∧ cn ch < 400 → r = cn ch + 1 ∧ cn2 = zup cn ch (cn ch + 1) ∧ (ch = 0 → e0 = zup f0 (cn 0) z ∧ e1 = f1) ∧ (ch = 1 → e0 = f0 ∧ e1 = zup f1 (cn 1) z))) := by
  refine Ctr.of [(0, .ref m0), (1, .int (iI ch)), (2, .int (iI z))] (by decide) (Nat.le_of_ble_eq_true rfl) rfl ?_
  intro x hxl hxg jb jr hin
  subst hxl; subst hxg
  refine j_iload_n jb dX11_sample_0 1 rfl ?_
  refine j_callS (wr := [(m0, oX11 sa ct sb ow s0 pk pd rd op sp), (ct, aI x.g 2 cn), (sa, aG x.g 2 (rf2 q0 q1)), (q0, aI x.g 400 f0), (q1, aI x.g 400 f1)]) jb k_X11_isChannel t_X11_isChannel l_X11_71 (C_X11_isChannel x.l x.g ch (by omega)) [] [0, 1, 2, 3, 4] (by decide) rfl rfl (by decide) (by decide) rfl rfl (Nat.le_of_ble_eq_true rfl) (by decide) dX11_sample_1 (fun v w hp => ?_)
  obtain ⟨rfl, rfl⟩ := hp
  refine j_norm (lv' := [(0, .ref m0), (1, .int (iI ch)), (2, .int (iI z))]) (st' := [.int (iI (b2i (0 ≤ ch ∧ ch < 2)))]) (ws' := [(m0, oX11 sa ct sb ow s0 pk pd rd op sp), (ct, aI x.g 2 cn), (sa, aG x.g 2 (rf2 q0 q1)), (q0, aI x.g 400 f0), (q1, aI x.g 400 f1)]) [0, 1, 2] [0, 1, 2, 3, 4] rfl rfl (by decide) rfl ?_
  refine j_ifb_eq (tgt := 18) jb dX11_sample_4 (by decide) (fun c_4 => ?_) (fun c_4 => ?_)
  · skip
    refine j_bipush jb dX11_sample_18 (by decide) ?_
    refine j_norm (lv' := []) (st' := [.int (iI (-2))]) (ws' := [(m0, oX11 sa ct sb ow s0 pk pd rd op sp), (ct, aI x.g 2 cn), (sa, aG x.g 2 (rf2 q0 q1)), (q0, aI x.g 400 f0), (q1, aI x.g 400 f1)]) [] [0, 1, 2, 3, 4] rfl rfl (by decide) rfl ?_
    exact j_iret jb jr dX11_sample_20 ⟨_, _, _, _, rfl, rfl, (by have hb : (¬ (0 ≤ ch ∧ ch < 2) ∨ ¬ fit z sb) := (by first | exact Or.inl c_4 | exact Or.inr c_15); exact ⟨fun _ => ⟨rfl, rfl, rfl, rfl⟩, fun q => absurd hb q.1, fun q => absurd hb q.1⟩)⟩
  · skip
    refine j_iload_n jb dX11_sample_7 2 rfl ?_
    refine j_aload_n jb dX11_sample_8 0 rfl ?_
    refine j_get jb f_X11_18 dX11_sample_9 0 rfl rfl ?_
    refine j_callS (wr := [(m0, oX11 sa ct sb ow s0 pk pd rd op sp), (ct, aI x.g 2 cn), (sa, aG x.g 2 (rf2 q0 q1)), (q0, aI x.g 400 f0), (q1, aI x.g 400 f1)]) jb k_X11_fits t_X11_fits l_X11_75 (C_X11_fits x.l x.g z sb (by omega) (by omega)) [] [0, 1, 2, 3, 4] (by decide) rfl rfl (by decide) (by decide) rfl rfl (Nat.le_of_ble_eq_true rfl) (by decide) dX11_sample_12 (fun v w hp => ?_)
    obtain ⟨rfl, rfl⟩ := hp
    refine j_norm (lv' := [(0, .ref m0), (1, .int (iI ch)), (2, .int (iI z))]) (st' := [.int (iI (b2i (fit z sb)))]) (ws' := [(m0, oX11 sa ct sb ow s0 pk pd rd op sp), (ct, aI x.g 2 cn), (sa, aG x.g 2 (rf2 q0 q1)), (q0, aI x.g 400 f0), (q1, aI x.g 400 f1)]) [0, 1, 2] [0, 1, 2, 3, 4] rfl rfl (by decide) rfl ?_
    refine j_ifb_ne (tgt := 21) jb dX11_sample_15 (by decide) (fun c_15 => ?_) (fun c_15 => ?_)
    · skip
      have hch : ch = 0 ∨ ch = 1 := by omega
      have hnb : ¬ (¬ (0 ≤ ch ∧ ch < 2) ∨ ¬ fit z sb) := fun q => q.elim (fun y => y c_4) (fun y => y c_15)
      have hci : 0 ≤ cn ch ∧ cn ch ≤ 400 := by (rcases hch with e | e; { rw [e]; exact hcn.1 }; { rw [e]; exact hcn.2 })
      refine j_aload_n jb dX11_sample_21 0 rfl ?_
      refine j_get jb f_X11_14 dX11_sample_22 0 rfl rfl ?_
      refine j_iload_n jb dX11_sample_25 1 rfl ?_
      refine j_iald jb dX11_sample_26 1 rfl (by omega) (by decide) ?_
      refine j_istore_n (lv' := [(3, .int (iI (cn ch))), (0, .ref m0), (1, .int (iI ch)), (2, .int (iI z))]) jb dX11_sample_27 rfl (by decide) rfl ?_
      refine j_iload_n jb dX11_sample_28 0 rfl ?_
      refine j_sipush jb dX11_sample_29 (by decide) ?_
      refine j_icmp_lt (tgt := 38) jb dX11_sample_32 (by decide) (by omega) (by omega) (fun c_32 => ?_) (fun c_32 => ?_)
      · skip
        rcases hch with e | e
        · skip
          subst e
          refine j_aload_n jb dX11_sample_38 1 rfl ?_
          refine j_get jb f_X11_11 dX11_sample_39 0 rfl rfl ?_
          refine j_iload_n jb dX11_sample_42 2 rfl ?_
          refine j_aaldG (b := q0) jb dX11_sample_43 2 rfl (by decide) (by decide) rfl ?_
          refine j_iload_n jb dX11_sample_44 0 rfl ?_
          refine j_iload_n jb dX11_sample_45 3 rfl ?_
          refine j_iast (ws' := [(m0, oX11 sa ct sb ow s0 pk pd rd op sp), (ct, aI x.g 2 cn), (sa, aG x.g 2 (rf2 q0 q1)), (q0, aI x.g 400 (zup f0 (cn 0) z)), (q1, aI x.g 400 f1)]) jb dX11_sample_46 3 rfl (by omega) (by decide) rfl ?_
          refine j_aload_n jb dX11_sample_47 1 rfl ?_
          refine j_get jb f_X11_14 dX11_sample_48 0 rfl rfl ?_
          refine j_iload_n jb dX11_sample_51 2 rfl ?_
          refine j_iload_n jb dX11_sample_52 0 rfl ?_
          refine j_iconst jb dX11_sample_53 ?_
          refine j_iadd jb dX11_sample_54 ?_
          refine j_iast (ws' := [(m0, oX11 sa ct sb ow s0 pk pd rd op sp), (ct, aI x.g 2 (zup cn 0 ((cn 0) + 1))), (sa, aG x.g 2 (rf2 q0 q1)), (q0, aI x.g 400 (zup f0 (cn 0) z)), (q1, aI x.g 400 f1)]) jb dX11_sample_55 1 rfl (by omega) (by decide) rfl ?_
          refine j_iload_n jb dX11_sample_56 0 rfl ?_
          refine j_iconst jb dX11_sample_57 ?_
          refine j_iadd jb dX11_sample_58 ?_
          refine j_norm (lv' := []) (st' := [.int (iI ((cn 0) + 1))]) (ws' := [(m0, oX11 sa ct sb ow s0 pk pd rd op sp), (ct, aI x.g 2 (zup cn 0 ((cn 0) + 1))), (sa, aG x.g 2 (rf2 q0 q1)), (q0, aI x.g 400 (zup f0 (cn 0) z)), (q1, aI x.g 400 f1)]) [] [0, 1, 2, 3, 4] rfl rfl (by decide) rfl ?_
          exact j_iret jb jr dX11_sample_59 ⟨_, _, _, _, rfl, rfl, ⟨fun q => absurd q hnb, fun q => absurd q.2 (by omega), fun _ => ⟨rfl, rfl, (by first | exact fun _ => ⟨rfl, rfl⟩ | exact fun q => absurd q (by decide)), (by first | exact fun _ => ⟨rfl, rfl⟩ | exact fun q => absurd q (by decide))⟩⟩⟩
        · skip
          subst e
          refine j_aload_n jb dX11_sample_38 1 rfl ?_
          refine j_get jb f_X11_11 dX11_sample_39 0 rfl rfl ?_
          refine j_iload_n jb dX11_sample_42 2 rfl ?_
          refine j_aaldG (b := q1) jb dX11_sample_43 2 rfl (by decide) (by decide) rfl ?_
          refine j_iload_n jb dX11_sample_44 0 rfl ?_
          refine j_iload_n jb dX11_sample_45 3 rfl ?_
          refine j_iast (ws' := [(m0, oX11 sa ct sb ow s0 pk pd rd op sp), (ct, aI x.g 2 cn), (sa, aG x.g 2 (rf2 q0 q1)), (q0, aI x.g 400 f0), (q1, aI x.g 400 (zup f1 (cn 1) z))]) jb dX11_sample_46 4 rfl (by omega) (by decide) rfl ?_
          refine j_aload_n jb dX11_sample_47 1 rfl ?_
          refine j_get jb f_X11_14 dX11_sample_48 0 rfl rfl ?_
          refine j_iload_n jb dX11_sample_51 2 rfl ?_
          refine j_iload_n jb dX11_sample_52 0 rfl ?_
          refine j_iconst jb dX11_sample_53 ?_
          refine j_iadd jb dX11_sample_54 ?_
          refine j_iast (ws' := [(m0, oX11 sa ct sb ow s0 pk pd rd op sp), (ct, aI x.g 2 (zup cn 1 ((cn 1) + 1))), (sa, aG x.g 2 (rf2 q0 q1)), (q0, aI x.g 400 f0), (q1, aI x.g 400 (zup f1 (cn 1) z))]) jb dX11_sample_55 1 rfl (by omega) (by decide) rfl ?_
          refine j_iload_n jb dX11_sample_56 0 rfl ?_
          refine j_iconst jb dX11_sample_57 ?_
          refine j_iadd jb dX11_sample_58 ?_
          refine j_norm (lv' := []) (st' := [.int (iI ((cn 1) + 1))]) (ws' := [(m0, oX11 sa ct sb ow s0 pk pd rd op sp), (ct, aI x.g 2 (zup cn 1 ((cn 1) + 1))), (sa, aG x.g 2 (rf2 q0 q1)), (q0, aI x.g 400 f0), (q1, aI x.g 400 (zup f1 (cn 1) z))]) [] [0, 1, 2, 3, 4] rfl rfl (by decide) rfl ?_
          exact j_iret jb jr dX11_sample_59 ⟨_, _, _, _, rfl, rfl, ⟨fun q => absurd q hnb, fun q => absurd q.2 (by omega), fun _ => ⟨rfl, rfl, (by first | exact fun _ => ⟨rfl, rfl⟩ | exact fun q => absurd q (by decide)), (by first | exact fun _ => ⟨rfl, rfl⟩ | exact fun q => absurd q (by decide))⟩⟩⟩
      · skip
        refine j_bipush jb dX11_sample_35 (by decide) ?_
        refine j_norm (lv' := []) (st' := [.int (iI (-4))]) (ws' := [(m0, oX11 sa ct sb ow s0 pk pd rd op sp), (ct, aI x.g 2 cn), (sa, aG x.g 2 (rf2 q0 q1)), (q0, aI x.g 400 f0), (q1, aI x.g 400 f1)]) [] [0, 1, 2, 3, 4] rfl rfl (by decide) rfl ?_
        exact j_iret jb jr dX11_sample_37 ⟨_, _, _, _, rfl, rfl, ⟨fun q => absurd q hnb, fun _ => ⟨rfl, rfl, rfl, rfl⟩, fun q => absurd q.2 (by omega)⟩⟩
    · skip
      refine j_bipush jb dX11_sample_18 (by decide) ?_
      refine j_norm (lv' := []) (st' := [.int (iI (-2))]) (ws' := [(m0, oX11 sa ct sb ow s0 pk pd rd op sp), (ct, aI x.g 2 cn), (sa, aG x.g 2 (rf2 q0 q1)), (q0, aI x.g 400 f0), (q1, aI x.g 400 f1)]) [] [0, 1, 2, 3, 4] rfl rfl (by decide) rfl ?_
      exact j_iret jb jr dX11_sample_20 ⟨_, _, _, _, rfl, rfl, (by have hb : (¬ (0 ≤ ch ∧ ch < 2) ∨ ¬ fit z sb) := (by first | exact Or.inl c_4 | exact Or.inr c_15); exact ⟨fun _ => ⟨rfl, rfl, rfl, rfl⟩, fun q => absurd hb q.1, fun q => absurd hb q.1⟩)⟩

set_option maxHeartbeats 4000000 in
set_option maxRecDepth 100000 in
theorem C_X11_drop (l : Launch) (g : GG) (m0 sa ct ow s0 pk pd rd op sp : Nat) (sb ch : Int) (cn : Int → Int) (hcn : (0 ≤ cn 0 ∧ cn 0 ≤ 400) ∧ (0 ≤ cn 1 ∧ cn 1 ≤ 400)) (hc : inR ch) : Ctr l g yX11_drop cX11_drop 3 (some .int) 1 30 0 0 [.ref m0, .int (iI ch)] [(m0, oX11 sa ct sb ow s0 pk pd rd op sp), (ct, aI g 2 cn)] (fun vv ww => ∃ (r : Int) (cn2 : Int → Int), vv = some (.int (iI r)) ∧ ww = [(m0, oX11 sa ct sb ow s0 pk pd rd op sp), (ct, aI g 2 cn2)] ∧ (¬ (0 ≤ ch ∧ ch < 2) → r = -2 ∧ cn2 = cn) ∧ ((0 ≤ ch ∧ ch < 2) → r = cn ch ∧ cn2 = zup cn ch 0)) := by
  refine Ctr.of [(0, .ref m0), (1, .int (iI ch))] (by decide) (Nat.le_of_ble_eq_true rfl) rfl ?_
  intro x hxl hxg jb jr hin
  subst hxl; subst hxg
  refine j_iload_n jb dX11_drop_0 1 rfl ?_
  refine j_callS (wr := [(m0, oX11 sa ct sb ow s0 pk pd rd op sp), (ct, aI x.g 2 cn)]) jb k_X11_isChannel t_X11_isChannel l_X11_71 (C_X11_isChannel x.l x.g ch (by omega)) [] [0, 1] (by decide) rfl rfl (by decide) (by decide) rfl rfl (Nat.le_of_ble_eq_true rfl) (by decide) dX11_drop_1 (fun v w hp => ?_)
  obtain ⟨rfl, rfl⟩ := hp
  refine j_norm (lv' := [(0, .ref m0), (1, .int (iI ch))]) (st' := [.int (iI (b2i (0 ≤ ch ∧ ch < 2)))]) (ws' := [(m0, oX11 sa ct sb ow s0 pk pd rd op sp), (ct, aI x.g 2 cn)]) [0, 1] [0, 1] rfl rfl (by decide) rfl ?_
  refine j_ifb_ne (tgt := 10) jb dX11_drop_4 (by decide) (fun c_4 => ?_) (fun c_4 => ?_)
  · skip
    refine j_aload_n jb dX11_drop_10 0 rfl ?_
    refine j_get jb f_X11_14 dX11_drop_11 0 rfl rfl ?_
    refine j_iload_n jb dX11_drop_14 1 rfl ?_
    refine j_iald jb dX11_drop_15 1 rfl (by omega) (by decide) ?_
    refine j_istore_n (lv' := [(2, .int (iI (cn ch))), (0, .ref m0), (1, .int (iI ch))]) jb dX11_drop_16 rfl (by decide) rfl ?_
    refine j_aload_n jb dX11_drop_17 1 rfl ?_
    refine j_get jb f_X11_14 dX11_drop_18 0 rfl rfl ?_
    refine j_iload_n jb dX11_drop_21 2 rfl ?_
    refine j_iconst jb dX11_drop_22 ?_
    refine j_iast (ws' := [(m0, oX11 sa ct sb ow s0 pk pd rd op sp), (ct, aI x.g 2 (zup cn ch 0))]) jb dX11_drop_23 1 rfl (by omega) (by decide) rfl ?_
    refine j_iload_n jb dX11_drop_24 0 rfl ?_
    refine j_norm (lv' := []) (st' := [.int (iI (cn ch))]) (ws' := [(m0, oX11 sa ct sb ow s0 pk pd rd op sp), (ct, aI x.g 2 (zup cn ch 0))]) [] [0, 1] rfl rfl (by decide) rfl ?_
    exact j_iret jb jr dX11_drop_25 ⟨_, _, rfl, rfl, ⟨fun q => absurd c_4 q, fun _ => ⟨rfl, rfl⟩⟩⟩
  · skip
    refine j_bipush jb dX11_drop_7 (by decide) ?_
    refine j_norm (lv' := []) (st' := [.int (iI (-2))]) (ws' := [(m0, oX11 sa ct sb ow s0 pk pd rd op sp), (ct, aI x.g 2 cn)]) [] [0, 1] rfl rfl (by decide) rfl ?_
    exact j_iret jb jr dX11_drop_9 ⟨_, _, rfl, rfl, ⟨fun _ => ⟨rfl, rfl⟩, fun q => absurd q c_4⟩⟩

set_option maxHeartbeats 4000000 in
set_option maxRecDepth 100000 in
theorem C_X11_coefficients (l : Launch) (g : GG) (m0 sa ct ow s0 pk pd rd op sp : Nat) (wc : Nat) (sb oo os o2 s2 al : Int) (oc : Int → Int) (h1 : inR o2) (h2 : inR s2) (hal : inL al) (hoo : 0 ≤ oo ∧ oo ≤ 4) : Ctr l g yX11_coefficients cX11_coefficients 6 (some .int) 2 60 0 0 [.ref m0, .int (iI o2), .int (iI s2), .long (lI al)] [(m0, oX11 sa ct sb ow s0 pk pd rd op sp), (ow, oX1 wc oo os), (wc, aI g 4 oc)] (fun vv ww => ∃ (r oo2 os2 : Int) (oc2 : Int → Int), vv = some (.int (iI r)) ∧ ww = [(m0, oX11 sa ct sb ow s0 pk pd rd op sp), (ow, oX1 wc oo2 os2), (wc, aI g 4 oc2)] ∧ ((¬ (0 ≤ o2 ∧ o2 ≤ 4) ∨ (¬ o2 = 0 ∧ ¬ (0 ≤ s2 ∧ s2 ≤ 15))) → r = -2 ∧ oo2 = oo ∧ os2 = os ∧ oc2 = oc) ∧ (¬ (¬ (0 ≤ o2 ∧ o2 ≤ 4) ∨ (¬ o2 = 0 ∧ ¬ (0 ≤ s2 ∧ s2 ≤ 15))) → r = oo ∧ oo2 = o2 ∧ os2 = s2 ∧ (∀ j, 0 ≤ j → j < o2 → oc2 j = sgn (al / 2 ^ (j * 10).toNat) 10) ∧ (∀ j, o2 ≤ j → oc2 j = oc j))) := by
  refine Ctr.of [(0, .ref m0), (1, .int (iI o2)), (2, .int (iI s2)), (3, .long (lI al))] (by decide) (Nat.le_of_ble_eq_true rfl) rfl ?_
  intro x hxl hxg jb jr hin
  subst hxl; subst hxg
  refine j_iload_n jb dX11_coefficients_0 1 rfl ?_
  refine j_if_lt (tgt := 9) jb dX11_coefficients_1 (by decide) (by omega) (fun c_1 => ?_) (fun c_1 => ?_)
  · skip
    refine j_bipush jb dX11_coefficients_9 (by decide) ?_
    refine j_norm (lv' := []) (st' := [.int (iI (-2))]) (ws' := [(m0, oX11 sa ct sb ow s0 pk pd rd op sp), (ow, oX1 wc oo os), (wc, aI x.g 4 oc)]) [] [0, 1, 2] rfl rfl (by decide) rfl ?_
    exact j_iret jb jr dX11_coefficients_11 ⟨_, _, _, _, rfl, rfl, ⟨fun _ => ⟨rfl, rfl, rfl, rfl⟩, fun q => absurd (show (¬ (0 ≤ o2 ∧ o2 ≤ 4) ∨ (¬ o2 = 0 ∧ ¬ (0 ≤ s2 ∧ s2 ≤ 15))) by omega) q⟩⟩
  · skip
    refine j_iload_n jb dX11_coefficients_4 1 rfl ?_
    refine j_iconst jb dX11_coefficients_5 ?_
    refine j_icmp_le (tgt := 12) jb dX11_coefficients_6 (by decide) (by omega) (by omega) (fun c_6 => ?_) (fun c_6 => ?_)
    · skip
      refine j_iload_n jb dX11_coefficients_12 1 rfl ?_
      refine j_if_eq (tgt := 29) jb dX11_coefficients_13 (by decide) (by omega) (fun c_13 => ?_) (fun c_13 => ?_)
      · skip
        refine j_aload_n jb dX11_coefficients_29 0 rfl ?_
        refine j_get jb f_X11_25 dX11_coefficients_30 0 rfl rfl ?_
        refine j_get jb f_X11_79 dX11_coefficients_33 1 rfl rfl ?_
        refine j_istore (lv' := [(5, .int (iI oo)), (0, .ref m0), (1, .int (iI o2)), (2, .int (iI s2)), (3, .long (lI al))]) jb dX11_coefficients_36 (by decide) rfl ?_
        refine j_aload_n jb dX11_coefficients_38 1 rfl ?_
        refine j_get jb f_X11_25 dX11_coefficients_39 0 rfl rfl ?_
        refine j_iload_n jb dX11_coefficients_42 2 rfl ?_
        refine j_iload_n jb dX11_coefficients_43 3 rfl ?_
        refine j_lload_n jb dX11_coefficients_44 4 rfl ?_
        refine j_callV (wr := [(m0, oX11 sa ct sb ow s0 pk pd rd op sp)]) jb k_X1_becomeTold i_X1_becomeTold s_X1_becomeTold l_X11_82 (C_X1_becomeTold x.l x.g ow wc oc oo os o2 s2 al (by omega) (by omega)) 1 3 rfl rfl rfl [1, 2] [0] (by decide) rfl rfl (by decide) (by decide) rfl rfl (Nat.le_of_ble_eq_true rfl) (by decide) dX11_coefficients_45 (fun v w hp => ?_)
        obtain ⟨c2, rfl, rfl, h45⟩ := hp
        refine j_norm (lv' := [(5, .int (iI oo)), (0, .ref m0), (1, .int (iI o2)), (2, .int (iI s2)), (3, .long (lI al))]) (st' := []) (ws' := [(m0, oX11 sa ct sb ow s0 pk pd rd op sp), (ow, oX1 wc o2 s2), (wc, aI x.g 4 c2)]) [0, 1, 2, 3, 4] [0, 1, 2] rfl rfl (by decide) rfl ?_
        refine j_iload jb dX11_coefficients_48 0 rfl ?_
        refine j_norm (lv' := []) (st' := [.int (iI oo)]) (ws' := [(m0, oX11 sa ct sb ow s0 pk pd rd op sp), (ow, oX1 wc o2 s2), (wc, aI x.g 4 c2)]) [] [0, 1, 2] rfl rfl (by decide) rfl ?_
        exact j_iret jb jr dX11_coefficients_50 ⟨_, _, _, _, rfl, rfl, ⟨fun q => absurd q (by omega), fun _ => ⟨rfl, rfl, rfl, h45.1, h45.2⟩⟩⟩
      · skip
        refine j_iload_n jb dX11_coefficients_16 2 rfl ?_
        refine j_if_lt (tgt := 26) jb dX11_coefficients_17 (by decide) (by omega) (fun c_17 => ?_) (fun c_17 => ?_)
        · skip
          refine j_bipush jb dX11_coefficients_26 (by decide) ?_
          refine j_norm (lv' := []) (st' := [.int (iI (-2))]) (ws' := [(m0, oX11 sa ct sb ow s0 pk pd rd op sp), (ow, oX1 wc oo os), (wc, aI x.g 4 oc)]) [] [0, 1, 2] rfl rfl (by decide) rfl ?_
          exact j_iret jb jr dX11_coefficients_28 ⟨_, _, _, _, rfl, rfl, ⟨fun _ => ⟨rfl, rfl, rfl, rfl⟩, fun q => absurd (show (¬ (0 ≤ o2 ∧ o2 ≤ 4) ∨ (¬ o2 = 0 ∧ ¬ (0 ≤ s2 ∧ s2 ≤ 15))) by omega) q⟩⟩
        · skip
          refine j_iload_n jb dX11_coefficients_20 2 rfl ?_
          refine j_bipush jb dX11_coefficients_21 (by decide) ?_
          refine j_icmp_le (tgt := 29) jb dX11_coefficients_23 (by decide) (by omega) (by omega) (fun c_23 => ?_) (fun c_23 => ?_)
          · skip
            refine j_aload_n jb dX11_coefficients_29 0 rfl ?_
            refine j_get jb f_X11_25 dX11_coefficients_30 0 rfl rfl ?_
            refine j_get jb f_X11_79 dX11_coefficients_33 1 rfl rfl ?_
            refine j_istore (lv' := [(5, .int (iI oo)), (0, .ref m0), (1, .int (iI o2)), (2, .int (iI s2)), (3, .long (lI al))]) jb dX11_coefficients_36 (by decide) rfl ?_
            refine j_aload_n jb dX11_coefficients_38 1 rfl ?_
            refine j_get jb f_X11_25 dX11_coefficients_39 0 rfl rfl ?_
            refine j_iload_n jb dX11_coefficients_42 2 rfl ?_
            refine j_iload_n jb dX11_coefficients_43 3 rfl ?_
            refine j_lload_n jb dX11_coefficients_44 4 rfl ?_
            refine j_callV (wr := [(m0, oX11 sa ct sb ow s0 pk pd rd op sp)]) jb k_X1_becomeTold i_X1_becomeTold s_X1_becomeTold l_X11_82 (C_X1_becomeTold x.l x.g ow wc oc oo os o2 s2 al (by omega) (by omega)) 1 3 rfl rfl rfl [1, 2] [0] (by decide) rfl rfl (by decide) (by decide) rfl rfl (Nat.le_of_ble_eq_true rfl) (by decide) dX11_coefficients_45 (fun v w hp => ?_)
            obtain ⟨c2, rfl, rfl, h45⟩ := hp
            refine j_norm (lv' := [(5, .int (iI oo)), (0, .ref m0), (1, .int (iI o2)), (2, .int (iI s2)), (3, .long (lI al))]) (st' := []) (ws' := [(m0, oX11 sa ct sb ow s0 pk pd rd op sp), (ow, oX1 wc o2 s2), (wc, aI x.g 4 c2)]) [0, 1, 2, 3, 4] [0, 1, 2] rfl rfl (by decide) rfl ?_
            refine j_iload jb dX11_coefficients_48 0 rfl ?_
            refine j_norm (lv' := []) (st' := [.int (iI oo)]) (ws' := [(m0, oX11 sa ct sb ow s0 pk pd rd op sp), (ow, oX1 wc o2 s2), (wc, aI x.g 4 c2)]) [] [0, 1, 2] rfl rfl (by decide) rfl ?_
            exact j_iret jb jr dX11_coefficients_50 ⟨_, _, _, _, rfl, rfl, ⟨fun q => absurd q (by omega), fun _ => ⟨rfl, rfl, rfl, h45.1, h45.2⟩⟩⟩
          · skip
            refine j_bipush jb dX11_coefficients_26 (by decide) ?_
            refine j_norm (lv' := []) (st' := [.int (iI (-2))]) (ws' := [(m0, oX11 sa ct sb ow s0 pk pd rd op sp), (ow, oX1 wc oo os), (wc, aI x.g 4 oc)]) [] [0, 1, 2] rfl rfl (by decide) rfl ?_
            exact j_iret jb jr dX11_coefficients_28 ⟨_, _, _, _, rfl, rfl, ⟨fun _ => ⟨rfl, rfl, rfl, rfl⟩, fun q => absurd (show (¬ (0 ≤ o2 ∧ o2 ≤ 4) ∨ (¬ o2 = 0 ∧ ¬ (0 ≤ s2 ∧ s2 ≤ 15))) by omega) q⟩⟩
    · skip
      refine j_bipush jb dX11_coefficients_9 (by decide) ?_
      refine j_norm (lv' := []) (st' := [.int (iI (-2))]) (ws' := [(m0, oX11 sa ct sb ow s0 pk pd rd op sp), (ow, oX1 wc oo os), (wc, aI x.g 4 oc)]) [] [0, 1, 2] rfl rfl (by decide) rfl ?_
      exact j_iret jb jr dX11_coefficients_11 ⟨_, _, _, _, rfl, rfl, ⟨fun _ => ⟨rfl, rfl, rfl, rfl⟩, fun q => absurd (show (¬ (0 ≤ o2 ∧ o2 ≤ 4) ∨ (¬ o2 = 0 ∧ ¬ (0 ≤ s2 ∧ s2 ≤ 15))) by omega) q⟩⟩

set_option maxHeartbeats 4000000 in
set_option maxRecDepth 100000 in
theorem C_X11_told (l : Launch) (g : GG) (m0 sa ct ow s0 pk pd rd op sp : Nat) (u1 u2 : Nat) (sb wh : Int) (un uch utn ubi : Int) (hw : inR wh) (hun : inR un) (hubi : 0 ≤ ubi ∧ ubi ≤ 1000000) : Ctr l g yX11_told cX11_told 2 (some .int) 1 30 0 0 [.ref m0, .int (iI wh)] [(m0, oX11 sa ct sb ow s0 pk pd rd op sp), (pd, oX5 u1 u2 un uch utn ubi)] (fun vv ww => ∃ (r : Int), vv = some (.int (iI r)) ∧ ww = [(m0, oX11 sa ct sb ow s0 pk pd rd op sp), (pd, oX5 u1 u2 un uch utn ubi)] ∧ (¬ (0 ≤ wh ∧ wh ≤ 4) → r = -2) ∧ ((0 ≤ wh ∧ wh ≤ 4) ∧ un = 0 → r = -3) ∧ (¬ un = 0 → (wh = 0 → r = un) ∧ (wh = 1 → r = uch) ∧ (wh = 2 → r = utn) ∧ (wh = 3 → r = ubi) ∧ (wh = 4 → r = (ubi + 7) / 8 + 1))) := by
  refine Ctr.of [(0, .ref m0), (1, .int (iI wh))] (by decide) (Nat.le_of_ble_eq_true rfl) rfl ?_
  intro x hxl hxg jb jr hin
  subst hxl; subst hxg
  refine j_iload_n jb dX11_told_0 1 rfl ?_
  refine j_if_lt (tgt := 9) jb dX11_told_1 (by decide) (by omega) (fun c_1 => ?_) (fun c_1 => ?_)
  · skip
    refine j_bipush jb dX11_told_9 (by decide) ?_
    refine j_norm (lv' := []) (st' := [.int (iI (-2))]) (ws' := [(m0, oX11 sa ct sb ow s0 pk pd rd op sp), (pd, oX5 u1 u2 un uch utn ubi)]) [] [0, 1] rfl rfl (by decide) rfl ?_
    exact j_iret jb jr dX11_told_11 ⟨_, rfl, rfl, (by omega)⟩
  · skip
    refine j_iload_n jb dX11_told_4 1 rfl ?_
    refine j_iconst jb dX11_told_5 ?_
    refine j_icmp_le (tgt := 12) jb dX11_told_6 (by decide) (by omega) (by omega) (fun c_6 => ?_) (fun c_6 => ?_)
    · skip
      refine j_aload_n jb dX11_told_12 0 rfl ?_
      refine j_get jb f_X11_48 dX11_told_13 0 rfl rfl ?_
      refine j_get jb f_X11_107 dX11_told_16 1 rfl rfl ?_
      refine j_if_ne (tgt := 25) jb dX11_told_19 (by decide) (by omega) (fun c_19 => ?_) (fun c_19 => ?_)
      · skip
        rcases (show wh = 0 ∨ wh = 1 ∨ wh = 2 ∨ wh = 3 ∨ wh = 4 by omega) with e | e | e | e | e
        · skip
          subst e
          refine j_iload_n jb dX11_told_25 1 rfl ?_
          refine j_tswIn (tgt := 56) jb dX11_told_26 (by decide) (by decide) rfl (by decide) ?_
          refine j_aload_n jb dX11_told_56 0 rfl ?_
          refine j_get jb f_X11_48 dX11_told_57 0 rfl rfl ?_
          refine j_get jb f_X11_107 dX11_told_60 1 rfl rfl ?_
          refine j_norm (lv' := []) (st' := [.int (iI un)]) (ws' := [(m0, oX11 sa ct sb ow s0 pk pd rd op sp), (pd, oX5 u1 u2 un uch utn ubi)]) [] [0, 1] rfl rfl (by decide) rfl ?_
          exact j_iret jb jr dX11_told_63 ⟨_, rfl, rfl, (by omega)⟩
        · skip
          subst e
          refine j_iload_n jb dX11_told_25 1 rfl ?_
          refine j_tswIn (tgt := 64) jb dX11_told_26 (by decide) (by decide) rfl (by decide) ?_
          refine j_aload_n jb dX11_told_64 0 rfl ?_
          refine j_get jb f_X11_48 dX11_told_65 0 rfl rfl ?_
          refine j_get jb f_X11_110 dX11_told_68 1 rfl rfl ?_
          refine j_norm (lv' := []) (st' := [.int (iI uch)]) (ws' := [(m0, oX11 sa ct sb ow s0 pk pd rd op sp), (pd, oX5 u1 u2 un uch utn ubi)]) [] [0, 1] rfl rfl (by decide) rfl ?_
          exact j_iret jb jr dX11_told_71 ⟨_, rfl, rfl, (by omega)⟩
        · skip
          subst e
          refine j_iload_n jb dX11_told_25 1 rfl ?_
          refine j_tswIn (tgt := 72) jb dX11_told_26 (by decide) (by decide) rfl (by decide) ?_
          refine j_aload_n jb dX11_told_72 0 rfl ?_
          refine j_get jb f_X11_48 dX11_told_73 0 rfl rfl ?_
          refine j_get jb f_X11_113 dX11_told_76 1 rfl rfl ?_
          refine j_norm (lv' := []) (st' := [.int (iI utn)]) (ws' := [(m0, oX11 sa ct sb ow s0 pk pd rd op sp), (pd, oX5 u1 u2 un uch utn ubi)]) [] [0, 1] rfl rfl (by decide) rfl ?_
          exact j_iret jb jr dX11_told_79 ⟨_, rfl, rfl, (by omega)⟩
        · skip
          subst e
          refine j_iload_n jb dX11_told_25 1 rfl ?_
          refine j_tswIn (tgt := 80) jb dX11_told_26 (by decide) (by decide) rfl (by decide) ?_
          refine j_aload_n jb dX11_told_80 0 rfl ?_
          refine j_get jb f_X11_48 dX11_told_81 0 rfl rfl ?_
          refine j_get jb f_X11_116 dX11_told_84 1 rfl rfl ?_
          refine j_norm (lv' := []) (st' := [.int (iI ubi)]) (ws' := [(m0, oX11 sa ct sb ow s0 pk pd rd op sp), (pd, oX5 u1 u2 un uch utn ubi)]) [] [0, 1] rfl rfl (by decide) rfl ?_
          exact j_iret jb jr dX11_told_87 ⟨_, rfl, rfl, (by omega)⟩
        · skip
          subst e
          refine j_iload_n jb dX11_told_25 1 rfl ?_
          refine j_tswOut (tgt := 88) jb dX11_told_26 (by decide) (by decide) ?_
          refine j_aload_n jb dX11_told_88 0 rfl ?_
          refine j_get jb f_X11_48 dX11_told_89 0 rfl rfl ?_
          refine j_get jb f_X11_116 dX11_told_92 1 rfl rfl ?_
          refine j_callS (wr := [(m0, oX11 sa ct sb ow s0 pk pd rd op sp), (pd, oX5 u1 u2 un uch utn ubi)]) jb k_X11_bytesOf t_X11_bytesOf l_X11_96 (C_X11_bytesOf x.l x.g ubi (by omega)) [] [0, 1] (by decide) rfl rfl (by decide) (by decide) rfl rfl (Nat.le_of_ble_eq_true rfl) (by decide) dX11_told_95 (fun v w hp => ?_)
          obtain ⟨rfl, rfl⟩ := hp
          refine j_norm (lv' := [(0, .ref m0), (1, .int (iI 4))]) (st' := [.int (iI ((ubi + 7) / 8 + 1))]) (ws' := [(m0, oX11 sa ct sb ow s0 pk pd rd op sp), (pd, oX5 u1 u2 un uch utn ubi)]) [0, 1] [0, 1] rfl rfl (by decide) rfl ?_
          refine j_norm (lv' := []) (st' := [.int (iI ((ubi + 7) / 8 + 1))]) (ws' := [(m0, oX11 sa ct sb ow s0 pk pd rd op sp), (pd, oX5 u1 u2 un uch utn ubi)]) [] [0, 1] rfl rfl (by decide) rfl ?_
          exact j_iret jb jr dX11_told_98 ⟨_, rfl, rfl, (by omega)⟩
      · skip
        refine j_bipush jb dX11_told_22 (by decide) ?_
        refine j_norm (lv' := []) (st' := [.int (iI (-3))]) (ws' := [(m0, oX11 sa ct sb ow s0 pk pd rd op sp), (pd, oX5 u1 u2 un uch utn ubi)]) [] [0, 1] rfl rfl (by decide) rfl ?_
        exact j_iret jb jr dX11_told_24 ⟨_, rfl, rfl, (by omega)⟩
    · skip
      refine j_bipush jb dX11_told_9 (by decide) ?_
      refine j_norm (lv' := []) (st' := [.int (iI (-2))]) (ws' := [(m0, oX11 sa ct sb ow s0 pk pd rd op sp), (pd, oX5 u1 u2 un uch utn ubi)]) [] [0, 1] rfl rfl (by decide) rfl ?_
      exact j_iret jb jr dX11_told_11 ⟨_, rfl, rfl, (by omega)⟩

set_option maxHeartbeats 4000000 in
set_option maxRecDepth 100000 in
theorem C_X11_partTold (l : Launch) (g : GG) (g0 gk gy : Nat) (kd ws b p wh : Int) (K X : Int → Int) (hp : -1 ≤ p ∧ p ≤ 4) (hw : (10 ≤ wh ∧ wh < 26) ∨ (30 ≤ wh ∧ wh < 46)) : Ctr l g yX11_partTold cX11_partTold 4 (some .int) 1 30 0 0 [.ref g0, .int (iI wh)] [(g0, oX8 gk gy kd ws b p), (gk, aI g 16 K), (gy, aI g 16 X)] (fun vv ww => ∃ (r : Int), vv = some (.int (iI r)) ∧ ww = [(g0, oX8 gk gy kd ws b p), (gk, aI g 16 K), (gy, aI g 16 X)] ∧ r = rowV kd ws b p K X wh) := by
  refine Ctr.of [(0, .ref g0), (1, .int (iI wh))] (by decide) (Nat.le_of_ble_eq_true rfl) rfl ?_
  intro x hxl hxg jb jr hin
  subst hxl; subst hxg
  have hcp := cparts_in hp
  refine j_iload_n jb dX11_partTold_0 1 rfl ?_
  refine j_bipush jb dX11_partTold_1 (by decide) ?_
  refine j_icmp_lt (tgt := 10) jb dX11_partTold_3 (by decide) (by omega) (by omega) (fun c_3 => ?_) (fun c_3 => ?_)
  · skip
    refine j_iconst jb dX11_partTold_10 ?_
    refine j_istore_n (lv' := [(2, .int (iI 0)), (0, .ref g0), (1, .int (iI wh))]) jb dX11_partTold_11 rfl (by decide) rfl ?_
    refine j_iload_n jb dX11_partTold_12 2 rfl ?_
    refine j_iload_n jb dX11_partTold_13 0 rfl ?_
    refine j_if_eq (tgt := 22) jb dX11_partTold_14 (by decide) (by decide) (fun _ => ?_) (fun h => absurd h (by decide))
    refine j_bipush jb dX11_partTold_22 (by decide) ?_
    refine j_isub jb dX11_partTold_24 ?_
    refine j_istore_n (lv' := [(3, .int (iI (wh - 10))), (2, .int (iI 0)), (0, .ref g0), (1, .int (iI wh))]) jb dX11_partTold_25 rfl (by decide) rfl ?_
    refine j_iload_n jb dX11_partTold_26 0 rfl ?_
    refine j_aload_n jb dX11_partTold_27 2 rfl ?_
    refine j_callV (wr := [(gk, aI x.g 16 K), (gy, aI x.g 16 X)]) jb k_X8_countParts i_X8_countParts s_X8_countParts l_X11_201 (C_X8_countParts x.l x.g g0 gk gy kd ws b p (by omega)) 0 10 rfl rfl rfl [0] [1, 2] (by decide) rfl rfl (by decide) (by decide) rfl rfl (Nat.le_of_ble_eq_true rfl) (by decide) dX11_partTold_28 (fun v w hp => ?_)
    obtain ⟨cp, rfl, rfl, h28⟩ := hp
    refine j_norm (lv' := [(3, .int (iI (wh - 10))), (2, .int (iI 0)), (0, .ref g0), (1, .int (iI wh))]) (st' := [.int (iI cp), .int (iI (wh - 10))]) (ws' := [(g0, oX8 gk gy kd ws b p), (gk, aI x.g 16 K), (gy, aI x.g 16 X)]) [0, 1, 2, 3] [2, 0, 1] rfl rfl (by decide) rfl ?_
    refine j_icmp_lt (tgt := 37) jb dX11_partTold_31 (by decide) (by omega) (by omega) (fun c_31 => ?_) (fun c_31 => ?_)
    · skip
      refine j_iload_n jb dX11_partTold_37 1 rfl ?_
      refine j_if_eq (tgt := 50) jb dX11_partTold_38 (by decide) (by decide) (fun _ => ?_) (fun h => absurd h (by decide))
      refine j_aload_n jb dX11_partTold_50 2 rfl ?_
      refine j_get jb f_X11_208 dX11_partTold_51 0 rfl rfl ?_
      refine j_iload_n jb dX11_partTold_54 0 rfl ?_
      refine j_iald jb dX11_partTold_55 1 rfl (by omega) (by decide) ?_
      refine j_norm (lv' := []) (st' := [.int (iI (K (wh - 10)))]) (ws' := [(g0, oX8 gk gy kd ws b p), (gk, aI x.g 16 K), (gy, aI x.g 16 X)]) [] [0, 1, 2] rfl rfl (by decide) rfl ?_
      exact j_iret jb jr dX11_partTold_56 ⟨_, rfl, rfl, (by rw [h28] at c_31; unfold rowV; rw [if_neg (by omega), if_neg (by omega), if_neg (by omega), if_neg (by omega)]; first | (rw [if_pos (by omega), if_neg (by omega)]; done) | (rw [if_neg (by omega), if_neg (by omega)]; done))⟩
    · skip
      refine j_bipush jb dX11_partTold_34 (by decide) ?_
      refine j_norm (lv' := []) (st' := [.int (iI (-2))]) (ws' := [(g0, oX8 gk gy kd ws b p), (gk, aI x.g 16 K), (gy, aI x.g 16 X)]) [] [0, 1, 2] rfl rfl (by decide) rfl ?_
      exact j_iret jb jr dX11_partTold_36 ⟨_, rfl, rfl, (by rw [h28] at c_31; unfold rowV; rw [if_neg (by omega), if_neg (by omega), if_neg (by omega), if_neg (by omega)]; first | (rw [if_pos (by omega), if_pos (by omega)]; done) | (rw [if_neg (by omega), if_pos (by omega)]; done))⟩
  · skip
    refine j_iconst jb dX11_partTold_6 ?_
    refine j_goto (tgt := 11) jb dX11_partTold_7 (by decide) ?_
    refine j_istore_n (lv' := [(2, .int (iI 1)), (0, .ref g0), (1, .int (iI wh))]) jb dX11_partTold_11 rfl (by decide) rfl ?_
    refine j_iload_n jb dX11_partTold_12 2 rfl ?_
    refine j_iload_n jb dX11_partTold_13 0 rfl ?_
    refine j_if_eq (tgt := 22) jb dX11_partTold_14 (by decide) (by decide) (fun h => absurd h (by decide)) (fun _ => ?_)
    refine j_bipush jb dX11_partTold_17 (by decide) ?_
    refine j_goto (tgt := 24) jb dX11_partTold_19 (by decide) ?_
    refine j_isub jb dX11_partTold_24 ?_
    refine j_istore_n (lv' := [(3, .int (iI (wh - 30))), (2, .int (iI 1)), (0, .ref g0), (1, .int (iI wh))]) jb dX11_partTold_25 rfl (by decide) rfl ?_
    refine j_iload_n jb dX11_partTold_26 0 rfl ?_
    refine j_aload_n jb dX11_partTold_27 2 rfl ?_
    refine j_callV (wr := [(gk, aI x.g 16 K), (gy, aI x.g 16 X)]) jb k_X8_countParts i_X8_countParts s_X8_countParts l_X11_201 (C_X8_countParts x.l x.g g0 gk gy kd ws b p (by omega)) 0 10 rfl rfl rfl [0] [1, 2] (by decide) rfl rfl (by decide) (by decide) rfl rfl (Nat.le_of_ble_eq_true rfl) (by decide) dX11_partTold_28 (fun v w hp => ?_)
    obtain ⟨cp, rfl, rfl, h28⟩ := hp
    refine j_norm (lv' := [(3, .int (iI (wh - 30))), (2, .int (iI 1)), (0, .ref g0), (1, .int (iI wh))]) (st' := [.int (iI cp), .int (iI (wh - 30))]) (ws' := [(g0, oX8 gk gy kd ws b p), (gk, aI x.g 16 K), (gy, aI x.g 16 X)]) [0, 1, 2, 3] [2, 0, 1] rfl rfl (by decide) rfl ?_
    refine j_icmp_lt (tgt := 37) jb dX11_partTold_31 (by decide) (by omega) (by omega) (fun c_31 => ?_) (fun c_31 => ?_)
    · skip
      refine j_iload_n jb dX11_partTold_37 1 rfl ?_
      refine j_if_eq (tgt := 50) jb dX11_partTold_38 (by decide) (by decide) (fun h => absurd h (by decide)) (fun _ => ?_)
      refine j_aload_n jb dX11_partTold_41 2 rfl ?_
      refine j_get jb f_X11_205 dX11_partTold_42 0 rfl rfl ?_
      refine j_iload_n jb dX11_partTold_45 0 rfl ?_
      refine j_iald jb dX11_partTold_46 2 rfl (by omega) (by decide) ?_
      refine j_goto (tgt := 56) jb dX11_partTold_47 (by decide) ?_
      refine j_norm (lv' := []) (st' := [.int (iI (X (wh - 30)))]) (ws' := [(g0, oX8 gk gy kd ws b p), (gk, aI x.g 16 K), (gy, aI x.g 16 X)]) [] [0, 1, 2] rfl rfl (by decide) rfl ?_
      exact j_iret jb jr dX11_partTold_56 ⟨_, rfl, rfl, (by rw [h28] at c_31; unfold rowV; rw [if_neg (by omega), if_neg (by omega), if_neg (by omega), if_neg (by omega)]; first | (rw [if_pos (by omega), if_neg (by omega)]; done) | (rw [if_neg (by omega), if_neg (by omega)]; done))⟩
    · skip
      refine j_bipush jb dX11_partTold_34 (by decide) ?_
      refine j_norm (lv' := []) (st' := [.int (iI (-2))]) (ws' := [(g0, oX8 gk gy kd ws b p), (gk, aI x.g 16 K), (gy, aI x.g 16 X)]) [] [0, 1, 2] rfl rfl (by decide) rfl ?_
      exact j_iret jb jr dX11_partTold_36 ⟨_, rfl, rfl, (by rw [h28] at c_31; unfold rowV; rw [if_neg (by omega), if_neg (by omega), if_neg (by omega), if_neg (by omega)]; first | (rw [if_pos (by omega), if_pos (by omega)]; done) | (rw [if_neg (by omega), if_pos (by omega)]; done))⟩

set_option maxHeartbeats 4000000 in
set_option maxRecDepth 100000 in
theorem C_X11_row (l : Launch) (g : GG) (m0 sa ct ow s0 pk pd rd op sp : Nat) (u1 u2 uk1 ux1 uk2 ux2 : Nat) (sb rr wh : Int) (un uch utn ubi : Int) (ukd1 uws1 ub1 up1 ukd2 uws2 ub2 up2 : Int) (UK1 UX1 UK2 UX2 : Int → Int) (hr : inR rr) (hw : inR wh) (hun : inR un) (hch : inR uch) (hp1 : -1 ≤ up1 ∧ up1 ≤ 4) (hp2 : -1 ≤ up2 ∧ up2 ≤ 4) : Ctr l g yX11_row cX11_row 5 (some .int) 2 60 0 0 [.ref m0, .int (iI rr), .int (iI wh)] [(m0, oX11 sa ct sb ow s0 pk pd rd op sp), (pd, oX5 u1 u2 un uch utn ubi), (u1, oX8 uk1 ux1 ukd1 uws1 ub1 up1), (uk1, aI g 16 UK1), (ux1, aI g 16 UX1), (u2, oX8 uk2 ux2 ukd2 uws2 ub2 up2), (uk2, aI g 16 UK2), (ux2, aI g 16 UX2)] (fun vv ww => ∃ (r : Int), vv = some (.int (iI r)) ∧ ww = [(m0, oX11 sa ct sb ow s0 pk pd rd op sp), (pd, oX5 u1 u2 un uch utn ubi), (u1, oX8 uk1 ux1 ukd1 uws1 ub1 up1), (uk1, aI g 16 UK1), (ux1, aI g 16 UX1), (u2, oX8 uk2 ux2 ukd2 uws2 ub2 up2), (uk2, aI g 16 UK2), (ux2, aI g 16 UX2)] ∧ ((¬ (0 ≤ rr ∧ rr < 2) ∨ ¬ (((10 ≤ wh ∧ wh < 26) ∨ (30 ≤ wh ∧ wh < 46)) ∨ (0 ≤ wh ∧ wh ≤ 3))) → r = -2) ∧ (¬ (¬ (0 ≤ rr ∧ rr < 2) ∨ ¬ (((10 ≤ wh ∧ wh < 26) ∨ (30 ≤ wh ∧ wh < 46)) ∨ (0 ≤ wh ∧ wh ≤ 3))) ∧ un = 0 → r = -3) ∧ (¬ (¬ (0 ≤ rr ∧ rr < 2) ∨ ¬ (((10 ≤ wh ∧ wh < 26) ∨ (30 ≤ wh ∧ wh < 46)) ∨ (0 ≤ wh ∧ wh ≤ 3))) ∧ ¬ un = 0 ∧ uch ≤ rr → r = -2) ∧ (¬ (¬ (0 ≤ rr ∧ rr < 2) ∨ ¬ (((10 ≤ wh ∧ wh < 26) ∨ (30 ≤ wh ∧ wh < 46)) ∨ (0 ≤ wh ∧ wh ≤ 3))) ∧ ¬ un = 0 ∧ rr < uch → (rr = 0 → r = rowV ukd1 uws1 ub1 up1 UK1 UX1 wh) ∧ (rr = 1 → r = rowV ukd2 uws2 ub2 up2 UK2 UX2 wh))) := by
  refine Ctr.of [(0, .ref m0), (1, .int (iI rr)), (2, .int (iI wh))] (by decide) (Nat.le_of_ble_eq_true rfl) rfl ?_
  intro x hxl hxg jb jr hin
  subst hxl; subst hxg
  refine j_bipush jb dX11_row_0 (by decide) ?_
  refine j_iload_n jb dX11_row_2 2 rfl ?_
  refine j_callS (wr := [(m0, oX11 sa ct sb ow s0 pk pd rd op sp), (pd, oX5 u1 u2 un uch utn ubi), (u1, oX8 uk1 ux1 ukd1 uws1 ub1 up1), (uk1, aI x.g 16 UK1), (ux1, aI x.g 16 UX1), (u2, oX8 uk2 ux2 ukd2 uws2 ub2 up2), (uk2, aI x.g 16 UK2), (ux2, aI x.g 16 UX2)]) jb k_X11_isPartOf t_X11_isPartOf l_X11_117 (C_X11_isPartOf x.l x.g 10 wh (by omega) (by omega)) [] [0, 1, 2, 3, 4, 5, 6, 7] (by decide) rfl rfl (by decide) (by decide) rfl rfl (Nat.le_of_ble_eq_true rfl) (by decide) dX11_row_3 (fun v w hp => ?_)
  obtain ⟨rfl, rfl⟩ := hp
  refine j_norm (lv' := [(0, .ref m0), (1, .int (iI rr)), (2, .int (iI wh))]) (st' := [.int (iI (b2i (10 ≤ wh ∧ wh < 10 + 16)))]) (ws' := [(m0, oX11 sa ct sb ow s0 pk pd rd op sp), (pd, oX5 u1 u2 un uch utn ubi), (u1, oX8 uk1 ux1 ukd1 uws1 ub1 up1), (uk1, aI x.g 16 UK1), (ux1, aI x.g 16 UX1), (u2, oX8 uk2 ux2 ukd2 uws2 ub2 up2), (uk2, aI x.g 16 UK2), (ux2, aI x.g 16 UX2)]) [0, 1, 2] [0, 1, 2, 3, 4, 5, 6, 7] rfl rfl (by decide) rfl ?_
  have J23 : ∀ (fl : Int), ((fl = 1 ∧ ((10 ≤ wh ∧ wh < 26) ∨ (30 ≤ wh ∧ wh < 46))) ∨ (fl = 0 ∧ ¬ ((10 ≤ wh ∧ wh < 26) ∨ (30 ≤ wh ∧ wh < 46)))) → JW x 0 0 23 [(0, .ref m0), (1, .int (iI rr)), (2, .int (iI wh))] [.int (iI fl)] [(m0, oX11 sa ct sb ow s0 pk pd rd op sp), (pd, oX5 u1 u2 un uch utn ubi), (u1, oX8 uk1 ux1 ukd1 uws1 ub1 up1), (uk1, aI x.g 16 UK1), (ux1, aI x.g 16 UX1), (u2, oX8 uk2 ux2 ukd2 uws2 ub2 up2), (uk2, aI x.g 16 UK2), (ux2, aI x.g 16 UX2)] := by
    intro fl hfl
    refine j_istore_n (lv' := [(3, .int (iI fl)), (0, .ref m0), (1, .int (iI rr)), (2, .int (iI wh))]) jb dX11_row_23 rfl (by decide) rfl ?_
    refine j_iload_n jb dX11_row_24 2 rfl ?_
    refine j_callS (wr := [(m0, oX11 sa ct sb ow s0 pk pd rd op sp), (pd, oX5 u1 u2 un uch utn ubi), (u1, oX8 uk1 ux1 ukd1 uws1 ub1 up1), (uk1, aI x.g 16 UK1), (ux1, aI x.g 16 UX1), (u2, oX8 uk2 ux2 ukd2 uws2 ub2 up2), (uk2, aI x.g 16 UK2), (ux2, aI x.g 16 UX2)]) jb k_X11_isChannel t_X11_isChannel l_X11_71 (C_X11_isChannel x.l x.g rr (by omega)) [] [0, 1, 2, 3, 4, 5, 6, 7] (by decide) rfl rfl (by decide) (by decide) rfl rfl (Nat.le_of_ble_eq_true rfl) (by decide) dX11_row_25 (fun v w hp => ?_)
    obtain ⟨rfl, rfl⟩ := hp
    refine j_norm (lv' := [(3, .int (iI fl)), (0, .ref m0), (1, .int (iI rr)), (2, .int (iI wh))]) (st' := [.int (iI (b2i (0 ≤ rr ∧ rr < 2)))]) (ws' := [(m0, oX11 sa ct sb ow s0 pk pd rd op sp), (pd, oX5 u1 u2 un uch utn ubi), (u1, oX8 uk1 ux1 ukd1 uws1 ub1 up1), (uk1, aI x.g 16 UK1), (ux1, aI x.g 16 UX1), (u2, oX8 uk2 ux2 ukd2 uws2 ub2 up2), (uk2, aI x.g 16 UK2), (ux2, aI x.g 16 UX2)]) [0, 1, 2, 3] [0, 1, 2, 3, 4, 5, 6, 7] rfl rfl (by decide) rfl ?_
    refine j_ifb_eq (tgt := 44) jb dX11_row_28 (by decide) (fun c_28 => ?_) (fun c_28 => ?_)
    · skip
      refine j_bipush jb dX11_row_44 (by decide) ?_
      refine j_norm (lv' := []) (st' := [.int (iI (-2))]) (ws' := [(m0, oX11 sa ct sb ow s0 pk pd rd op sp), (pd, oX5 u1 u2 un uch utn ubi), (u1, oX8 uk1 ux1 ukd1 uws1 ub1 up1), (uk1, aI x.g 16 UK1), (ux1, aI x.g 16 UX1), (u2, oX8 uk2 ux2 ukd2 uws2 ub2 up2), (uk2, aI x.g 16 UK2), (ux2, aI x.g 16 UX2)]) [] [0, 1, 2, 3, 4, 5, 6, 7] rfl rfl (by decide) rfl ?_
      exact j_iret jb jr dX11_row_46 ⟨_, rfl, rfl, (by omega)⟩
    · skip
      refine j_iload_n jb dX11_row_31 0 rfl ?_
      refine j_if_ne (tgt := 47) jb dX11_row_32 (by decide) (by omega) (fun c_32 => ?_) (fun c_32 => ?_)
      · skip
        refine j_aload_n jb dX11_row_47 1 rfl ?_
        refine j_get jb f_X11_48 dX11_row_48 0 rfl rfl ?_
        refine j_get jb f_X11_107 dX11_row_51 1 rfl rfl ?_
        refine j_if_ne (tgt := 60) jb dX11_row_54 (by decide) (by omega) (fun c_54 => ?_) (fun c_54 => ?_)
        · skip
          have hnb : ¬ (¬ (0 ≤ rr ∧ rr < 2) ∨ ¬ (((10 ≤ wh ∧ wh < 26) ∨ (30 ≤ wh ∧ wh < 46)) ∨ (0 ≤ wh ∧ wh ≤ 3))) := by omega
          refine j_iload_n jb dX11_row_60 2 rfl ?_
          refine j_aload_n jb dX11_row_61 1 rfl ?_
          refine j_get jb f_X11_48 dX11_row_62 0 rfl rfl ?_
          refine j_get jb f_X11_110 dX11_row_65 1 rfl rfl ?_
          refine j_icmp_lt (tgt := 74) jb dX11_row_68 (by decide) (by omega) (by omega) (fun c_68 => ?_) (fun c_68 => ?_)
          · skip
            rcases (show rr = 0 ∨ rr = 1 by omega) with e9 | e9
            · skip
              subst e9
              refine j_iload_n jb dX11_row_74 2 rfl ?_
              refine j_if_ne (tgt := 88) jb dX11_row_75 (by decide) (by decide) (fun h => absurd h (by decide)) (fun _ => ?_)
              refine j_aload_n jb dX11_row_78 1 rfl ?_
              refine j_get jb f_X11_48 dX11_row_79 0 rfl rfl ?_
              refine j_get jb f_X11_120 dX11_row_82 1 rfl rfl ?_
              refine j_goto (tgt := 95) jb dX11_row_85 (by decide) ?_
              refine j_astore (lv' := [(4, .ref u1), (3, .int (iI fl)), (0, .ref m0), (1, .int (iI 0)), (2, .int (iI wh))]) jb dX11_row_95 (by decide) rfl ?_
              refine j_iload_n jb dX11_row_97 1 rfl ?_
              refine j_if_eq (tgt := 108) jb dX11_row_98 (by decide) (by omega) (fun c_98 => ?_) (fun c_98 => ?_)
              · skip
                rcases (show wh = 0 ∨ wh = 1 ∨ wh = 2 ∨ wh = 3 by omega) with e | e | e | e
                · skip
                  subst e
                  refine j_iload_n jb dX11_row_108 4 rfl ?_
                  refine j_tswIn (tgt := 136) jb dX11_row_109 (by decide) (by decide) rfl (by decide) ?_
                  refine j_aload jb dX11_row_136 0 rfl ?_
                  refine j_get jb f_X11_131 dX11_row_138 2 rfl rfl ?_
                  refine j_norm (lv' := []) (st' := [.int (iI ukd1)]) (ws' := [(m0, oX11 sa ct sb ow s0 pk pd rd op sp), (pd, oX5 u1 u2 un uch utn ubi), (u1, oX8 uk1 ux1 ukd1 uws1 ub1 up1), (uk1, aI x.g 16 UK1), (ux1, aI x.g 16 UX1), (u2, oX8 uk2 ux2 ukd2 uws2 ub2 up2), (uk2, aI x.g 16 UK2), (ux2, aI x.g 16 UX2)]) [] [0, 1, 2, 3, 4, 5, 6, 7] rfl rfl (by decide) rfl ?_
                  exact j_iret jb jr dX11_row_141 ⟨_, rfl, rfl, ⟨fun q => absurd q hnb, fun q => absurd q.2 (by omega), fun q => absurd q.2.2 (by omega), fun _ => ⟨(by first | exact fun _ => rfl | exact fun q => absurd q (by decide)), (by first | exact fun _ => rfl | exact fun q => absurd q (by decide))⟩⟩⟩
                · skip
                  subst e
                  refine j_iload_n jb dX11_row_108 4 rfl ?_
                  refine j_tswIn (tgt := 142) jb dX11_row_109 (by decide) (by decide) rfl (by decide) ?_
                  refine j_aload jb dX11_row_142 0 rfl ?_
                  refine j_get jb f_X11_136 dX11_row_144 2 rfl rfl ?_
                  refine j_norm (lv' := []) (st' := [.int (iI uws1)]) (ws' := [(m0, oX11 sa ct sb ow s0 pk pd rd op sp), (pd, oX5 u1 u2 un uch utn ubi), (u1, oX8 uk1 ux1 ukd1 uws1 ub1 up1), (uk1, aI x.g 16 UK1), (ux1, aI x.g 16 UX1), (u2, oX8 uk2 ux2 ukd2 uws2 ub2 up2), (uk2, aI x.g 16 UK2), (ux2, aI x.g 16 UX2)]) [] [0, 1, 2, 3, 4, 5, 6, 7] rfl rfl (by decide) rfl ?_
                  exact j_iret jb jr dX11_row_147 ⟨_, rfl, rfl, ⟨fun q => absurd q hnb, fun q => absurd q.2 (by omega), fun q => absurd q.2.2 (by omega), fun _ => ⟨(by first | exact fun _ => rfl | exact fun q => absurd q (by decide)), (by first | exact fun _ => rfl | exact fun q => absurd q (by decide))⟩⟩⟩
                · skip
                  subst e
                  refine j_iload_n jb dX11_row_108 4 rfl ?_
                  refine j_tswIn (tgt := 148) jb dX11_row_109 (by decide) (by decide) rfl (by decide) ?_
                  refine j_aload jb dX11_row_148 0 rfl ?_
                  refine j_get jb f_X11_139 dX11_row_150 2 rfl rfl ?_
                  refine j_norm (lv' := []) (st' := [.int (iI ub1)]) (ws' := [(m0, oX11 sa ct sb ow s0 pk pd rd op sp), (pd, oX5 u1 u2 un uch utn ubi), (u1, oX8 uk1 ux1 ukd1 uws1 ub1 up1), (uk1, aI x.g 16 UK1), (ux1, aI x.g 16 UX1), (u2, oX8 uk2 ux2 ukd2 uws2 ub2 up2), (uk2, aI x.g 16 UK2), (ux2, aI x.g 16 UX2)]) [] [0, 1, 2, 3, 4, 5, 6, 7] rfl rfl (by decide) rfl ?_
                  exact j_iret jb jr dX11_row_153 ⟨_, rfl, rfl, ⟨fun q => absurd q hnb, fun q => absurd q.2 (by omega), fun q => absurd q.2.2 (by omega), fun _ => ⟨(by first | exact fun _ => rfl | exact fun q => absurd q (by decide)), (by first | exact fun _ => rfl | exact fun q => absurd q (by decide))⟩⟩⟩
                · skip
                  subst e
                  refine j_iload_n jb dX11_row_108 4 rfl ?_
                  refine j_tswOut (tgt := 154) jb dX11_row_109 (by decide) (by decide) ?_
                  refine j_aload jb dX11_row_154 0 rfl ?_
                  refine j_get jb f_X11_140 dX11_row_156 2 rfl rfl ?_
                  refine j_norm (lv' := []) (st' := [.int (iI up1)]) (ws' := [(m0, oX11 sa ct sb ow s0 pk pd rd op sp), (pd, oX5 u1 u2 un uch utn ubi), (u1, oX8 uk1 ux1 ukd1 uws1 ub1 up1), (uk1, aI x.g 16 UK1), (ux1, aI x.g 16 UX1), (u2, oX8 uk2 ux2 ukd2 uws2 ub2 up2), (uk2, aI x.g 16 UK2), (ux2, aI x.g 16 UX2)]) [] [0, 1, 2, 3, 4, 5, 6, 7] rfl rfl (by decide) rfl ?_
                  exact j_iret jb jr dX11_row_159 ⟨_, rfl, rfl, ⟨fun q => absurd q hnb, fun q => absurd q.2 (by omega), fun q => absurd q.2.2 (by omega), fun _ => ⟨(by first | exact fun _ => rfl | exact fun q => absurd q (by decide)), (by first | exact fun _ => rfl | exact fun q => absurd q (by decide))⟩⟩⟩
              · skip
                have hof : ((10 ≤ wh ∧ wh < 26) ∨ (30 ≤ wh ∧ wh < 46)) := by omega
                refine j_aload jb dX11_row_101 0 rfl ?_
                refine j_iload_n jb dX11_row_103 4 rfl ?_
                refine j_callS (wr := [(m0, oX11 sa ct sb ow s0 pk pd rd op sp), (pd, oX5 u1 u2 un uch utn ubi), (u2, oX8 uk2 ux2 ukd2 uws2 ub2 up2), (uk2, aI x.g 16 UK2), (ux2, aI x.g 16 UX2)]) jb k_X11_partTold t_X11_partTold l_X11_127 (C_X11_partTold x.l x.g u1 uk1 ux1 ukd1 uws1 ub1 up1 wh UK1 UX1 hp1 hof) [2, 3, 4] [0, 1, 5, 6, 7] (by decide) rfl rfl (by decide) (by decide) rfl rfl (Nat.le_of_ble_eq_true rfl) (by decide) dX11_row_104 (fun v w hp => ?_)
                obtain ⟨rv, rfl, rfl, h104⟩ := hp
                refine j_norm (lv' := [(4, .ref u1), (3, .int (iI fl)), (0, .ref m0), (1, .int (iI 0)), (2, .int (iI wh))]) (st' := [.int (iI rv)]) (ws' := [(m0, oX11 sa ct sb ow s0 pk pd rd op sp), (pd, oX5 u1 u2 un uch utn ubi), (u1, oX8 uk1 ux1 ukd1 uws1 ub1 up1), (uk1, aI x.g 16 UK1), (ux1, aI x.g 16 UX1), (u2, oX8 uk2 ux2 ukd2 uws2 ub2 up2), (uk2, aI x.g 16 UK2), (ux2, aI x.g 16 UX2)]) [0, 1, 2, 3, 4] [0, 1, 5, 6, 7, 2, 3, 4] rfl rfl (by decide) rfl ?_
                refine j_norm (lv' := []) (st' := [.int (iI rv)]) (ws' := [(m0, oX11 sa ct sb ow s0 pk pd rd op sp), (pd, oX5 u1 u2 un uch utn ubi), (u1, oX8 uk1 ux1 ukd1 uws1 ub1 up1), (uk1, aI x.g 16 UK1), (ux1, aI x.g 16 UX1), (u2, oX8 uk2 ux2 ukd2 uws2 ub2 up2), (uk2, aI x.g 16 UK2), (ux2, aI x.g 16 UX2)]) [] [0, 1, 2, 3, 4, 5, 6, 7] rfl rfl (by decide) rfl ?_
                exact j_iret jb jr dX11_row_107 ⟨_, rfl, rfl, ⟨fun q => absurd q hnb, fun q => absurd q.2 (by omega), fun q => absurd q.2.2 (by omega), fun _ => ⟨(by first | exact fun _ => h104 | exact fun q => absurd q (by decide)), (by first | exact fun _ => h104 | exact fun q => absurd q (by decide))⟩⟩⟩
            · skip
              subst e9
              refine j_iload_n jb dX11_row_74 2 rfl ?_
              refine j_if_ne (tgt := 88) jb dX11_row_75 (by decide) (by decide) (fun _ => ?_) (fun h => absurd h (by decide))
              refine j_aload_n jb dX11_row_88 1 rfl ?_
              refine j_get jb f_X11_48 dX11_row_89 0 rfl rfl ?_
              refine j_get jb f_X11_124 dX11_row_92 1 rfl rfl ?_
              refine j_astore (lv' := [(4, .ref u2), (3, .int (iI fl)), (0, .ref m0), (1, .int (iI 1)), (2, .int (iI wh))]) jb dX11_row_95 (by decide) rfl ?_
              refine j_iload_n jb dX11_row_97 1 rfl ?_
              refine j_if_eq (tgt := 108) jb dX11_row_98 (by decide) (by omega) (fun c_98 => ?_) (fun c_98 => ?_)
              · skip
                rcases (show wh = 0 ∨ wh = 1 ∨ wh = 2 ∨ wh = 3 by omega) with e | e | e | e
                · skip
                  subst e
                  refine j_iload_n jb dX11_row_108 4 rfl ?_
                  refine j_tswIn (tgt := 136) jb dX11_row_109 (by decide) (by decide) rfl (by decide) ?_
                  refine j_aload jb dX11_row_136 0 rfl ?_
                  refine j_get jb f_X11_131 dX11_row_138 5 rfl rfl ?_
                  refine j_norm (lv' := []) (st' := [.int (iI ukd2)]) (ws' := [(m0, oX11 sa ct sb ow s0 pk pd rd op sp), (pd, oX5 u1 u2 un uch utn ubi), (u1, oX8 uk1 ux1 ukd1 uws1 ub1 up1), (uk1, aI x.g 16 UK1), (ux1, aI x.g 16 UX1), (u2, oX8 uk2 ux2 ukd2 uws2 ub2 up2), (uk2, aI x.g 16 UK2), (ux2, aI x.g 16 UX2)]) [] [0, 1, 2, 3, 4, 5, 6, 7] rfl rfl (by decide) rfl ?_
                  exact j_iret jb jr dX11_row_141 ⟨_, rfl, rfl, ⟨fun q => absurd q hnb, fun q => absurd q.2 (by omega), fun q => absurd q.2.2 (by omega), fun _ => ⟨(by first | exact fun _ => rfl | exact fun q => absurd q (by decide)), (by first | exact fun _ => rfl | exact fun q => absurd q (by decide))⟩⟩⟩
                · skip
                  subst e
                  refine j_iload_n jb dX11_row_108 4 rfl ?_
                  refine j_tswIn (tgt := 142) jb dX11_row_109 (by decide) (by decide) rfl (by decide) ?_
                  refine j_aload jb dX11_row_142 0 rfl ?_
                  refine j_get jb f_X11_136 dX11_row_144 5 rfl rfl ?_
                  refine j_norm (lv' := []) (st' := [.int (iI uws2)]) (ws' := [(m0, oX11 sa ct sb ow s0 pk pd rd op sp), (pd, oX5 u1 u2 un uch utn ubi), (u1, oX8 uk1 ux1 ukd1 uws1 ub1 up1), (uk1, aI x.g 16 UK1), (ux1, aI x.g 16 UX1), (u2, oX8 uk2 ux2 ukd2 uws2 ub2 up2), (uk2, aI x.g 16 UK2), (ux2, aI x.g 16 UX2)]) [] [0, 1, 2, 3, 4, 5, 6, 7] rfl rfl (by decide) rfl ?_
                  exact j_iret jb jr dX11_row_147 ⟨_, rfl, rfl, ⟨fun q => absurd q hnb, fun q => absurd q.2 (by omega), fun q => absurd q.2.2 (by omega), fun _ => ⟨(by first | exact fun _ => rfl | exact fun q => absurd q (by decide)), (by first | exact fun _ => rfl | exact fun q => absurd q (by decide))⟩⟩⟩
                · skip
                  subst e
                  refine j_iload_n jb dX11_row_108 4 rfl ?_
                  refine j_tswIn (tgt := 148) jb dX11_row_109 (by decide) (by decide) rfl (by decide) ?_
                  refine j_aload jb dX11_row_148 0 rfl ?_
                  refine j_get jb f_X11_139 dX11_row_150 5 rfl rfl ?_
                  refine j_norm (lv' := []) (st' := [.int (iI ub2)]) (ws' := [(m0, oX11 sa ct sb ow s0 pk pd rd op sp), (pd, oX5 u1 u2 un uch utn ubi), (u1, oX8 uk1 ux1 ukd1 uws1 ub1 up1), (uk1, aI x.g 16 UK1), (ux1, aI x.g 16 UX1), (u2, oX8 uk2 ux2 ukd2 uws2 ub2 up2), (uk2, aI x.g 16 UK2), (ux2, aI x.g 16 UX2)]) [] [0, 1, 2, 3, 4, 5, 6, 7] rfl rfl (by decide) rfl ?_
                  exact j_iret jb jr dX11_row_153 ⟨_, rfl, rfl, ⟨fun q => absurd q hnb, fun q => absurd q.2 (by omega), fun q => absurd q.2.2 (by omega), fun _ => ⟨(by first | exact fun _ => rfl | exact fun q => absurd q (by decide)), (by first | exact fun _ => rfl | exact fun q => absurd q (by decide))⟩⟩⟩
                · skip
                  subst e
                  refine j_iload_n jb dX11_row_108 4 rfl ?_
                  refine j_tswOut (tgt := 154) jb dX11_row_109 (by decide) (by decide) ?_
                  refine j_aload jb dX11_row_154 0 rfl ?_
                  refine j_get jb f_X11_140 dX11_row_156 5 rfl rfl ?_
                  refine j_norm (lv' := []) (st' := [.int (iI up2)]) (ws' := [(m0, oX11 sa ct sb ow s0 pk pd rd op sp), (pd, oX5 u1 u2 un uch utn ubi), (u1, oX8 uk1 ux1 ukd1 uws1 ub1 up1), (uk1, aI x.g 16 UK1), (ux1, aI x.g 16 UX1), (u2, oX8 uk2 ux2 ukd2 uws2 ub2 up2), (uk2, aI x.g 16 UK2), (ux2, aI x.g 16 UX2)]) [] [0, 1, 2, 3, 4, 5, 6, 7] rfl rfl (by decide) rfl ?_
                  exact j_iret jb jr dX11_row_159 ⟨_, rfl, rfl, ⟨fun q => absurd q hnb, fun q => absurd q.2 (by omega), fun q => absurd q.2.2 (by omega), fun _ => ⟨(by first | exact fun _ => rfl | exact fun q => absurd q (by decide)), (by first | exact fun _ => rfl | exact fun q => absurd q (by decide))⟩⟩⟩
              · skip
                have hof : ((10 ≤ wh ∧ wh < 26) ∨ (30 ≤ wh ∧ wh < 46)) := by omega
                refine j_aload jb dX11_row_101 0 rfl ?_
                refine j_iload_n jb dX11_row_103 4 rfl ?_
                refine j_callS (wr := [(m0, oX11 sa ct sb ow s0 pk pd rd op sp), (pd, oX5 u1 u2 un uch utn ubi), (u1, oX8 uk1 ux1 ukd1 uws1 ub1 up1), (uk1, aI x.g 16 UK1), (ux1, aI x.g 16 UX1)]) jb k_X11_partTold t_X11_partTold l_X11_127 (C_X11_partTold x.l x.g u2 uk2 ux2 ukd2 uws2 ub2 up2 wh UK2 UX2 hp2 hof) [5, 6, 7] [0, 1, 2, 3, 4] (by decide) rfl rfl (by decide) (by decide) rfl rfl (Nat.le_of_ble_eq_true rfl) (by decide) dX11_row_104 (fun v w hp => ?_)
                obtain ⟨rv, rfl, rfl, h104⟩ := hp
                refine j_norm (lv' := [(4, .ref u2), (3, .int (iI fl)), (0, .ref m0), (1, .int (iI 1)), (2, .int (iI wh))]) (st' := [.int (iI rv)]) (ws' := [(m0, oX11 sa ct sb ow s0 pk pd rd op sp), (pd, oX5 u1 u2 un uch utn ubi), (u1, oX8 uk1 ux1 ukd1 uws1 ub1 up1), (uk1, aI x.g 16 UK1), (ux1, aI x.g 16 UX1), (u2, oX8 uk2 ux2 ukd2 uws2 ub2 up2), (uk2, aI x.g 16 UK2), (ux2, aI x.g 16 UX2)]) [0, 1, 2, 3, 4] [0, 1, 2, 3, 4, 5, 6, 7] rfl rfl (by decide) rfl ?_
                refine j_norm (lv' := []) (st' := [.int (iI rv)]) (ws' := [(m0, oX11 sa ct sb ow s0 pk pd rd op sp), (pd, oX5 u1 u2 un uch utn ubi), (u1, oX8 uk1 ux1 ukd1 uws1 ub1 up1), (uk1, aI x.g 16 UK1), (ux1, aI x.g 16 UX1), (u2, oX8 uk2 ux2 ukd2 uws2 ub2 up2), (uk2, aI x.g 16 UK2), (ux2, aI x.g 16 UX2)]) [] [0, 1, 2, 3, 4, 5, 6, 7] rfl rfl (by decide) rfl ?_
                exact j_iret jb jr dX11_row_107 ⟨_, rfl, rfl, ⟨fun q => absurd q hnb, fun q => absurd q.2 (by omega), fun q => absurd q.2.2 (by omega), fun _ => ⟨(by first | exact fun _ => h104 | exact fun q => absurd q (by decide)), (by first | exact fun _ => h104 | exact fun q => absurd q (by decide))⟩⟩⟩
          · skip
            refine j_bipush jb dX11_row_71 (by decide) ?_
            refine j_norm (lv' := []) (st' := [.int (iI (-2))]) (ws' := [(m0, oX11 sa ct sb ow s0 pk pd rd op sp), (pd, oX5 u1 u2 un uch utn ubi), (u1, oX8 uk1 ux1 ukd1 uws1 ub1 up1), (uk1, aI x.g 16 UK1), (ux1, aI x.g 16 UX1), (u2, oX8 uk2 ux2 ukd2 uws2 ub2 up2), (uk2, aI x.g 16 UK2), (ux2, aI x.g 16 UX2)]) [] [0, 1, 2, 3, 4, 5, 6, 7] rfl rfl (by decide) rfl ?_
            exact j_iret jb jr dX11_row_73 ⟨_, rfl, rfl, (by omega)⟩
        · skip
          refine j_bipush jb dX11_row_57 (by decide) ?_
          refine j_norm (lv' := []) (st' := [.int (iI (-3))]) (ws' := [(m0, oX11 sa ct sb ow s0 pk pd rd op sp), (pd, oX5 u1 u2 un uch utn ubi), (u1, oX8 uk1 ux1 ukd1 uws1 ub1 up1), (uk1, aI x.g 16 UK1), (ux1, aI x.g 16 UX1), (u2, oX8 uk2 ux2 ukd2 uws2 ub2 up2), (uk2, aI x.g 16 UK2), (ux2, aI x.g 16 UX2)]) [] [0, 1, 2, 3, 4, 5, 6, 7] rfl rfl (by decide) rfl ?_
          exact j_iret jb jr dX11_row_59 ⟨_, rfl, rfl, (by omega)⟩
      · skip
        refine j_iload_n jb dX11_row_35 3 rfl ?_
        refine j_if_lt (tgt := 44) jb dX11_row_36 (by decide) (by omega) (fun c_36 => ?_) (fun c_36 => ?_)
        · skip
          refine j_bipush jb dX11_row_44 (by decide) ?_
          refine j_norm (lv' := []) (st' := [.int (iI (-2))]) (ws' := [(m0, oX11 sa ct sb ow s0 pk pd rd op sp), (pd, oX5 u1 u2 un uch utn ubi), (u1, oX8 uk1 ux1 ukd1 uws1 ub1 up1), (uk1, aI x.g 16 UK1), (ux1, aI x.g 16 UX1), (u2, oX8 uk2 ux2 ukd2 uws2 ub2 up2), (uk2, aI x.g 16 UK2), (ux2, aI x.g 16 UX2)]) [] [0, 1, 2, 3, 4, 5, 6, 7] rfl rfl (by decide) rfl ?_
          exact j_iret jb jr dX11_row_46 ⟨_, rfl, rfl, (by omega)⟩
        · skip
          refine j_iload_n jb dX11_row_39 3 rfl ?_
          refine j_iconst jb dX11_row_40 ?_
          refine j_icmp_le (tgt := 47) jb dX11_row_41 (by decide) (by omega) (by omega) (fun c_41 => ?_) (fun c_41 => ?_)
          · skip
            refine j_aload_n jb dX11_row_47 1 rfl ?_
            refine j_get jb f_X11_48 dX11_row_48 0 rfl rfl ?_
            refine j_get jb f_X11_107 dX11_row_51 1 rfl rfl ?_
            refine j_if_ne (tgt := 60) jb dX11_row_54 (by decide) (by omega) (fun c_54 => ?_) (fun c_54 => ?_)
            · skip
              have hnb : ¬ (¬ (0 ≤ rr ∧ rr < 2) ∨ ¬ (((10 ≤ wh ∧ wh < 26) ∨ (30 ≤ wh ∧ wh < 46)) ∨ (0 ≤ wh ∧ wh ≤ 3))) := by omega
              refine j_iload_n jb dX11_row_60 2 rfl ?_
              refine j_aload_n jb dX11_row_61 1 rfl ?_
              refine j_get jb f_X11_48 dX11_row_62 0 rfl rfl ?_
              refine j_get jb f_X11_110 dX11_row_65 1 rfl rfl ?_
              refine j_icmp_lt (tgt := 74) jb dX11_row_68 (by decide) (by omega) (by omega) (fun c_68 => ?_) (fun c_68 => ?_)
              · skip
                rcases (show rr = 0 ∨ rr = 1 by omega) with e9 | e9
                · skip
                  subst e9
                  refine j_iload_n jb dX11_row_74 2 rfl ?_
                  refine j_if_ne (tgt := 88) jb dX11_row_75 (by decide) (by decide) (fun h => absurd h (by decide)) (fun _ => ?_)
                  refine j_aload_n jb dX11_row_78 1 rfl ?_
                  refine j_get jb f_X11_48 dX11_row_79 0 rfl rfl ?_
                  refine j_get jb f_X11_120 dX11_row_82 1 rfl rfl ?_
                  refine j_goto (tgt := 95) jb dX11_row_85 (by decide) ?_
                  refine j_astore (lv' := [(4, .ref u1), (3, .int (iI fl)), (0, .ref m0), (1, .int (iI 0)), (2, .int (iI wh))]) jb dX11_row_95 (by decide) rfl ?_
                  refine j_iload_n jb dX11_row_97 1 rfl ?_
                  refine j_if_eq (tgt := 108) jb dX11_row_98 (by decide) (by omega) (fun c_98 => ?_) (fun c_98 => ?_)
                  · skip
                    rcases (show wh = 0 ∨ wh = 1 ∨ wh = 2 ∨ wh = 3 by omega) with e | e | e | e
                    · skip
                      subst e
                      refine j_iload_n jb dX11_row_108 4 rfl ?_
                      refine j_tswIn (tgt := 136) jb dX11_row_109 (by decide) (by decide) rfl (by decide) ?_
                      refine j_aload jb dX11_row_136 0 rfl ?_
                      refine j_get jb f_X11_131 dX11_row_138 2 rfl rfl ?_
                      refine j_norm (lv' := []) (st' := [.int (iI ukd1)]) (ws' := [(m0, oX11 sa ct sb ow s0 pk pd rd op sp), (pd, oX5 u1 u2 un uch utn ubi), (u1, oX8 uk1 ux1 ukd1 uws1 ub1 up1), (uk1, aI x.g 16 UK1), (ux1, aI x.g 16 UX1), (u2, oX8 uk2 ux2 ukd2 uws2 ub2 up2), (uk2, aI x.g 16 UK2), (ux2, aI x.g 16 UX2)]) [] [0, 1, 2, 3, 4, 5, 6, 7] rfl rfl (by decide) rfl ?_
                      exact j_iret jb jr dX11_row_141 ⟨_, rfl, rfl, ⟨fun q => absurd q hnb, fun q => absurd q.2 (by omega), fun q => absurd q.2.2 (by omega), fun _ => ⟨(by first | exact fun _ => rfl | exact fun q => absurd q (by decide)), (by first | exact fun _ => rfl | exact fun q => absurd q (by decide))⟩⟩⟩
                    · skip
                      subst e
                      refine j_iload_n jb dX11_row_108 4 rfl ?_
                      refine j_tswIn (tgt := 142) jb dX11_row_109 (by decide) (by decide) rfl (by decide) ?_
                      refine j_aload jb dX11_row_142 0 rfl ?_
                      refine j_get jb f_X11_136 dX11_row_144 2 rfl rfl ?_
                      refine j_norm (lv' := []) (st' := [.int (iI uws1)]) (ws' := [(m0, oX11 sa ct sb ow s0 pk pd rd op sp), (pd, oX5 u1 u2 un uch utn ubi), (u1, oX8 uk1 ux1 ukd1 uws1 ub1 up1), (uk1, aI x.g 16 UK1), (ux1, aI x.g 16 UX1), (u2, oX8 uk2 ux2 ukd2 uws2 ub2 up2), (uk2, aI x.g 16 UK2), (ux2, aI x.g 16 UX2)]) [] [0, 1, 2, 3, 4, 5, 6, 7] rfl rfl (by decide) rfl ?_
                      exact j_iret jb jr dX11_row_147 ⟨_, rfl, rfl, ⟨fun q => absurd q hnb, fun q => absurd q.2 (by omega), fun q => absurd q.2.2 (by omega), fun _ => ⟨(by first | exact fun _ => rfl | exact fun q => absurd q (by decide)), (by first | exact fun _ => rfl | exact fun q => absurd q (by decide))⟩⟩⟩
                    · skip
                      subst e
                      refine j_iload_n jb dX11_row_108 4 rfl ?_
                      refine j_tswIn (tgt := 148) jb dX11_row_109 (by decide) (by decide) rfl (by decide) ?_
                      refine j_aload jb dX11_row_148 0 rfl ?_
                      refine j_get jb f_X11_139 dX11_row_150 2 rfl rfl ?_
                      refine j_norm (lv' := []) (st' := [.int (iI ub1)]) (ws' := [(m0, oX11 sa ct sb ow s0 pk pd rd op sp), (pd, oX5 u1 u2 un uch utn ubi), (u1, oX8 uk1 ux1 ukd1 uws1 ub1 up1), (uk1, aI x.g 16 UK1), (ux1, aI x.g 16 UX1), (u2, oX8 uk2 ux2 ukd2 uws2 ub2 up2), (uk2, aI x.g 16 UK2), (ux2, aI x.g 16 UX2)]) [] [0, 1, 2, 3, 4, 5, 6, 7] rfl rfl (by decide) rfl ?_
                      exact j_iret jb jr dX11_row_153 ⟨_, rfl, rfl, ⟨fun q => absurd q hnb, fun q => absurd q.2 (by omega), fun q => absurd q.2.2 (by omega), fun _ => ⟨(by first | exact fun _ => rfl | exact fun q => absurd q (by decide)), (by first | exact fun _ => rfl | exact fun q => absurd q (by decide))⟩⟩⟩
                    · skip
                      subst e
                      refine j_iload_n jb dX11_row_108 4 rfl ?_
                      refine j_tswOut (tgt := 154) jb dX11_row_109 (by decide) (by decide) ?_
                      refine j_aload jb dX11_row_154 0 rfl ?_
                      refine j_get jb f_X11_140 dX11_row_156 2 rfl rfl ?_
                      refine j_norm (lv' := []) (st' := [.int (iI up1)]) (ws' := [(m0, oX11 sa ct sb ow s0 pk pd rd op sp), (pd, oX5 u1 u2 un uch utn ubi), (u1, oX8 uk1 ux1 ukd1 uws1 ub1 up1), (uk1, aI x.g 16 UK1), (ux1, aI x.g 16 UX1), (u2, oX8 uk2 ux2 ukd2 uws2 ub2 up2), (uk2, aI x.g 16 UK2), (ux2, aI x.g 16 UX2)]) [] [0, 1, 2, 3, 4, 5, 6, 7] rfl rfl (by decide) rfl ?_
                      exact j_iret jb jr dX11_row_159 ⟨_, rfl, rfl, ⟨fun q => absurd q hnb, fun q => absurd q.2 (by omega), fun q => absurd q.2.2 (by omega), fun _ => ⟨(by first | exact fun _ => rfl | exact fun q => absurd q (by decide)), (by first | exact fun _ => rfl | exact fun q => absurd q (by decide))⟩⟩⟩
                  · skip
                    have hof : ((10 ≤ wh ∧ wh < 26) ∨ (30 ≤ wh ∧ wh < 46)) := by omega
                    refine j_aload jb dX11_row_101 0 rfl ?_
                    refine j_iload_n jb dX11_row_103 4 rfl ?_
                    refine j_callS (wr := [(m0, oX11 sa ct sb ow s0 pk pd rd op sp), (pd, oX5 u1 u2 un uch utn ubi), (u2, oX8 uk2 ux2 ukd2 uws2 ub2 up2), (uk2, aI x.g 16 UK2), (ux2, aI x.g 16 UX2)]) jb k_X11_partTold t_X11_partTold l_X11_127 (C_X11_partTold x.l x.g u1 uk1 ux1 ukd1 uws1 ub1 up1 wh UK1 UX1 hp1 hof) [2, 3, 4] [0, 1, 5, 6, 7] (by decide) rfl rfl (by decide) (by decide) rfl rfl (Nat.le_of_ble_eq_true rfl) (by decide) dX11_row_104 (fun v w hp => ?_)
                    obtain ⟨rv, rfl, rfl, h104⟩ := hp
                    refine j_norm (lv' := [(4, .ref u1), (3, .int (iI fl)), (0, .ref m0), (1, .int (iI 0)), (2, .int (iI wh))]) (st' := [.int (iI rv)]) (ws' := [(m0, oX11 sa ct sb ow s0 pk pd rd op sp), (pd, oX5 u1 u2 un uch utn ubi), (u1, oX8 uk1 ux1 ukd1 uws1 ub1 up1), (uk1, aI x.g 16 UK1), (ux1, aI x.g 16 UX1), (u2, oX8 uk2 ux2 ukd2 uws2 ub2 up2), (uk2, aI x.g 16 UK2), (ux2, aI x.g 16 UX2)]) [0, 1, 2, 3, 4] [0, 1, 5, 6, 7, 2, 3, 4] rfl rfl (by decide) rfl ?_
                    refine j_norm (lv' := []) (st' := [.int (iI rv)]) (ws' := [(m0, oX11 sa ct sb ow s0 pk pd rd op sp), (pd, oX5 u1 u2 un uch utn ubi), (u1, oX8 uk1 ux1 ukd1 uws1 ub1 up1), (uk1, aI x.g 16 UK1), (ux1, aI x.g 16 UX1), (u2, oX8 uk2 ux2 ukd2 uws2 ub2 up2), (uk2, aI x.g 16 UK2), (ux2, aI x.g 16 UX2)]) [] [0, 1, 2, 3, 4, 5, 6, 7] rfl rfl (by decide) rfl ?_
                    exact j_iret jb jr dX11_row_107 ⟨_, rfl, rfl, ⟨fun q => absurd q hnb, fun q => absurd q.2 (by omega), fun q => absurd q.2.2 (by omega), fun _ => ⟨(by first | exact fun _ => h104 | exact fun q => absurd q (by decide)), (by first | exact fun _ => h104 | exact fun q => absurd q (by decide))⟩⟩⟩
                · skip
                  subst e9
                  refine j_iload_n jb dX11_row_74 2 rfl ?_
                  refine j_if_ne (tgt := 88) jb dX11_row_75 (by decide) (by decide) (fun _ => ?_) (fun h => absurd h (by decide))
                  refine j_aload_n jb dX11_row_88 1 rfl ?_
                  refine j_get jb f_X11_48 dX11_row_89 0 rfl rfl ?_
                  refine j_get jb f_X11_124 dX11_row_92 1 rfl rfl ?_
                  refine j_astore (lv' := [(4, .ref u2), (3, .int (iI fl)), (0, .ref m0), (1, .int (iI 1)), (2, .int (iI wh))]) jb dX11_row_95 (by decide) rfl ?_
                  refine j_iload_n jb dX11_row_97 1 rfl ?_
                  refine j_if_eq (tgt := 108) jb dX11_row_98 (by decide) (by omega) (fun c_98 => ?_) (fun c_98 => ?_)
                  · skip
                    rcases (show wh = 0 ∨ wh = 1 ∨ wh = 2 ∨ wh = 3 by omega) with e | e | e | e
                    · skip
                      subst e
                      refine j_iload_n jb dX11_row_108 4 rfl ?_
                      refine j_tswIn (tgt := 136) jb dX11_row_109 (by decide) (by decide) rfl (by decide) ?_
                      refine j_aload jb dX11_row_136 0 rfl ?_
                      refine j_get jb f_X11_131 dX11_row_138 5 rfl rfl ?_
                      refine j_norm (lv' := []) (st' := [.int (iI ukd2)]) (ws' := [(m0, oX11 sa ct sb ow s0 pk pd rd op sp), (pd, oX5 u1 u2 un uch utn ubi), (u1, oX8 uk1 ux1 ukd1 uws1 ub1 up1), (uk1, aI x.g 16 UK1), (ux1, aI x.g 16 UX1), (u2, oX8 uk2 ux2 ukd2 uws2 ub2 up2), (uk2, aI x.g 16 UK2), (ux2, aI x.g 16 UX2)]) [] [0, 1, 2, 3, 4, 5, 6, 7] rfl rfl (by decide) rfl ?_
                      exact j_iret jb jr dX11_row_141 ⟨_, rfl, rfl, ⟨fun q => absurd q hnb, fun q => absurd q.2 (by omega), fun q => absurd q.2.2 (by omega), fun _ => ⟨(by first | exact fun _ => rfl | exact fun q => absurd q (by decide)), (by first | exact fun _ => rfl | exact fun q => absurd q (by decide))⟩⟩⟩
                    · skip
                      subst e
                      refine j_iload_n jb dX11_row_108 4 rfl ?_
                      refine j_tswIn (tgt := 142) jb dX11_row_109 (by decide) (by decide) rfl (by decide) ?_
                      refine j_aload jb dX11_row_142 0 rfl ?_
                      refine j_get jb f_X11_136 dX11_row_144 5 rfl rfl ?_
                      refine j_norm (lv' := []) (st' := [.int (iI uws2)]) (ws' := [(m0, oX11 sa ct sb ow s0 pk pd rd op sp), (pd, oX5 u1 u2 un uch utn ubi), (u1, oX8 uk1 ux1 ukd1 uws1 ub1 up1), (uk1, aI x.g 16 UK1), (ux1, aI x.g 16 UX1), (u2, oX8 uk2 ux2 ukd2 uws2 ub2 up2), (uk2, aI x.g 16 UK2), (ux2, aI x.g 16 UX2)]) [] [0, 1, 2, 3, 4, 5, 6, 7] rfl rfl (by decide) rfl ?_
                      exact j_iret jb jr dX11_row_147 ⟨_, rfl, rfl, ⟨fun q => absurd q hnb, fun q => absurd q.2 (by omega), fun q => absurd q.2.2 (by omega), fun _ => ⟨(by first | exact fun _ => rfl | exact fun q => absurd q (by decide)), (by first | exact fun _ => rfl | exact fun q => absurd q (by decide))⟩⟩⟩
                    · skip
                      subst e
                      refine j_iload_n jb dX11_row_108 4 rfl ?_
                      refine j_tswIn (tgt := 148) jb dX11_row_109 (by decide) (by decide) rfl (by decide) ?_
                      refine j_aload jb dX11_row_148 0 rfl ?_
                      refine j_get jb f_X11_139 dX11_row_150 5 rfl rfl ?_
                      refine j_norm (lv' := []) (st' := [.int (iI ub2)]) (ws' := [(m0, oX11 sa ct sb ow s0 pk pd rd op sp), (pd, oX5 u1 u2 un uch utn ubi), (u1, oX8 uk1 ux1 ukd1 uws1 ub1 up1), (uk1, aI x.g 16 UK1), (ux1, aI x.g 16 UX1), (u2, oX8 uk2 ux2 ukd2 uws2 ub2 up2), (uk2, aI x.g 16 UK2), (ux2, aI x.g 16 UX2)]) [] [0, 1, 2, 3, 4, 5, 6, 7] rfl rfl (by decide) rfl ?_
                      exact j_iret jb jr dX11_row_153 ⟨_, rfl, rfl, ⟨fun q => absurd q hnb, fun q => absurd q.2 (by omega), fun q => absurd q.2.2 (by omega), fun _ => ⟨(by first | exact fun _ => rfl | exact fun q => absurd q (by decide)), (by first | exact fun _ => rfl | exact fun q => absurd q (by decide))⟩⟩⟩
                    · skip
                      subst e
                      refine j_iload_n jb dX11_row_108 4 rfl ?_
                      refine j_tswOut (tgt := 154) jb dX11_row_109 (by decide) (by decide) ?_
                      refine j_aload jb dX11_row_154 0 rfl ?_
                      refine j_get jb f_X11_140 dX11_row_156 5 rfl rfl ?_
                      refine j_norm (lv' := []) (st' := [.int (iI up2)]) (ws' := [(m0, oX11 sa ct sb ow s0 pk pd rd op sp), (pd, oX5 u1 u2 un uch utn ubi), (u1, oX8 uk1 ux1 ukd1 uws1 ub1 up1), (uk1, aI x.g 16 UK1), (ux1, aI x.g 16 UX1), (u2, oX8 uk2 ux2 ukd2 uws2 ub2 up2), (uk2, aI x.g 16 UK2), (ux2, aI x.g 16 UX2)]) [] [0, 1, 2, 3, 4, 5, 6, 7] rfl rfl (by decide) rfl ?_
                      exact j_iret jb jr dX11_row_159 ⟨_, rfl, rfl, ⟨fun q => absurd q hnb, fun q => absurd q.2 (by omega), fun q => absurd q.2.2 (by omega), fun _ => ⟨(by first | exact fun _ => rfl | exact fun q => absurd q (by decide)), (by first | exact fun _ => rfl | exact fun q => absurd q (by decide))⟩⟩⟩
                  · skip
                    have hof : ((10 ≤ wh ∧ wh < 26) ∨ (30 ≤ wh ∧ wh < 46)) := by omega
                    refine j_aload jb dX11_row_101 0 rfl ?_
                    refine j_iload_n jb dX11_row_103 4 rfl ?_
                    refine j_callS (wr := [(m0, oX11 sa ct sb ow s0 pk pd rd op sp), (pd, oX5 u1 u2 un uch utn ubi), (u1, oX8 uk1 ux1 ukd1 uws1 ub1 up1), (uk1, aI x.g 16 UK1), (ux1, aI x.g 16 UX1)]) jb k_X11_partTold t_X11_partTold l_X11_127 (C_X11_partTold x.l x.g u2 uk2 ux2 ukd2 uws2 ub2 up2 wh UK2 UX2 hp2 hof) [5, 6, 7] [0, 1, 2, 3, 4] (by decide) rfl rfl (by decide) (by decide) rfl rfl (Nat.le_of_ble_eq_true rfl) (by decide) dX11_row_104 (fun v w hp => ?_)
                    obtain ⟨rv, rfl, rfl, h104⟩ := hp
                    refine j_norm (lv' := [(4, .ref u2), (3, .int (iI fl)), (0, .ref m0), (1, .int (iI 1)), (2, .int (iI wh))]) (st' := [.int (iI rv)]) (ws' := [(m0, oX11 sa ct sb ow s0 pk pd rd op sp), (pd, oX5 u1 u2 un uch utn ubi), (u1, oX8 uk1 ux1 ukd1 uws1 ub1 up1), (uk1, aI x.g 16 UK1), (ux1, aI x.g 16 UX1), (u2, oX8 uk2 ux2 ukd2 uws2 ub2 up2), (uk2, aI x.g 16 UK2), (ux2, aI x.g 16 UX2)]) [0, 1, 2, 3, 4] [0, 1, 2, 3, 4, 5, 6, 7] rfl rfl (by decide) rfl ?_
                    refine j_norm (lv' := []) (st' := [.int (iI rv)]) (ws' := [(m0, oX11 sa ct sb ow s0 pk pd rd op sp), (pd, oX5 u1 u2 un uch utn ubi), (u1, oX8 uk1 ux1 ukd1 uws1 ub1 up1), (uk1, aI x.g 16 UK1), (ux1, aI x.g 16 UX1), (u2, oX8 uk2 ux2 ukd2 uws2 ub2 up2), (uk2, aI x.g 16 UK2), (ux2, aI x.g 16 UX2)]) [] [0, 1, 2, 3, 4, 5, 6, 7] rfl rfl (by decide) rfl ?_
                    exact j_iret jb jr dX11_row_107 ⟨_, rfl, rfl, ⟨fun q => absurd q hnb, fun q => absurd q.2 (by omega), fun q => absurd q.2.2 (by omega), fun _ => ⟨(by first | exact fun _ => h104 | exact fun q => absurd q (by decide)), (by first | exact fun _ => h104 | exact fun q => absurd q (by decide))⟩⟩⟩
              · skip
                refine j_bipush jb dX11_row_71 (by decide) ?_
                refine j_norm (lv' := []) (st' := [.int (iI (-2))]) (ws' := [(m0, oX11 sa ct sb ow s0 pk pd rd op sp), (pd, oX5 u1 u2 un uch utn ubi), (u1, oX8 uk1 ux1 ukd1 uws1 ub1 up1), (uk1, aI x.g 16 UK1), (ux1, aI x.g 16 UX1), (u2, oX8 uk2 ux2 ukd2 uws2 ub2 up2), (uk2, aI x.g 16 UK2), (ux2, aI x.g 16 UX2)]) [] [0, 1, 2, 3, 4, 5, 6, 7] rfl rfl (by decide) rfl ?_
                exact j_iret jb jr dX11_row_73 ⟨_, rfl, rfl, (by omega)⟩
            · skip
              refine j_bipush jb dX11_row_57 (by decide) ?_
              refine j_norm (lv' := []) (st' := [.int (iI (-3))]) (ws' := [(m0, oX11 sa ct sb ow s0 pk pd rd op sp), (pd, oX5 u1 u2 un uch utn ubi), (u1, oX8 uk1 ux1 ukd1 uws1 ub1 up1), (uk1, aI x.g 16 UK1), (ux1, aI x.g 16 UX1), (u2, oX8 uk2 ux2 ukd2 uws2 ub2 up2), (uk2, aI x.g 16 UK2), (ux2, aI x.g 16 UX2)]) [] [0, 1, 2, 3, 4, 5, 6, 7] rfl rfl (by decide) rfl ?_
              exact j_iret jb jr dX11_row_59 ⟨_, rfl, rfl, (by omega)⟩
          · skip
            refine j_bipush jb dX11_row_44 (by decide) ?_
            refine j_norm (lv' := []) (st' := [.int (iI (-2))]) (ws' := [(m0, oX11 sa ct sb ow s0 pk pd rd op sp), (pd, oX5 u1 u2 un uch utn ubi), (u1, oX8 uk1 ux1 ukd1 uws1 ub1 up1), (uk1, aI x.g 16 UK1), (ux1, aI x.g 16 UX1), (u2, oX8 uk2 ux2 ukd2 uws2 ub2 up2), (uk2, aI x.g 16 UK2), (ux2, aI x.g 16 UX2)]) [] [0, 1, 2, 3, 4, 5, 6, 7] rfl rfl (by decide) rfl ?_
            exact j_iret jb jr dX11_row_46 ⟨_, rfl, rfl, (by omega)⟩
  refine j_ifb_ne (tgt := 18) jb dX11_row_6 (by decide) (fun c_6 => ?_) (fun c_6 => ?_)
  · skip
    refine j_iconst jb dX11_row_18 ?_
    refine j_goto (tgt := 23) jb dX11_row_19 (by decide) ?_
    refine j_norm (lv' := [(0, .ref m0), (1, .int (iI rr)), (2, .int (iI wh))]) (st' := [.int (iI 1)]) (ws' := [(m0, oX11 sa ct sb ow s0 pk pd rd op sp), (pd, oX5 u1 u2 un uch utn ubi), (u1, oX8 uk1 ux1 ukd1 uws1 ub1 up1), (uk1, aI x.g 16 UK1), (ux1, aI x.g 16 UX1), (u2, oX8 uk2 ux2 ukd2 uws2 ub2 up2), (uk2, aI x.g 16 UK2), (ux2, aI x.g 16 UX2)]) [0, 1, 2] [0, 1, 2, 3, 4, 5, 6, 7] rfl rfl (by decide) rfl ?_
    exact J23 1 (by omega)
  · skip
    refine j_bipush jb dX11_row_9 (by decide) ?_
    refine j_iload_n jb dX11_row_11 2 rfl ?_
    refine j_callS (wr := [(m0, oX11 sa ct sb ow s0 pk pd rd op sp), (pd, oX5 u1 u2 un uch utn ubi), (u1, oX8 uk1 ux1 ukd1 uws1 ub1 up1), (uk1, aI x.g 16 UK1), (ux1, aI x.g 16 UX1), (u2, oX8 uk2 ux2 ukd2 uws2 ub2 up2), (uk2, aI x.g 16 UK2), (ux2, aI x.g 16 UX2)]) jb k_X11_isPartOf t_X11_isPartOf l_X11_117 (C_X11_isPartOf x.l x.g 30 wh (by omega) (by omega)) [] [0, 1, 2, 3, 4, 5, 6, 7] (by decide) rfl rfl (by decide) (by decide) rfl rfl (Nat.le_of_ble_eq_true rfl) (by decide) dX11_row_12 (fun v w hp => ?_)
    obtain ⟨rfl, rfl⟩ := hp
    refine j_norm (lv' := [(0, .ref m0), (1, .int (iI rr)), (2, .int (iI wh))]) (st' := [.int (iI (b2i (30 ≤ wh ∧ wh < 30 + 16)))]) (ws' := [(m0, oX11 sa ct sb ow s0 pk pd rd op sp), (pd, oX5 u1 u2 un uch utn ubi), (u1, oX8 uk1 ux1 ukd1 uws1 ub1 up1), (uk1, aI x.g 16 UK1), (ux1, aI x.g 16 UX1), (u2, oX8 uk2 ux2 ukd2 uws2 ub2 up2), (uk2, aI x.g 16 UK2), (ux2, aI x.g 16 UX2)]) [0, 1, 2] [0, 1, 2, 3, 4, 5, 6, 7] rfl rfl (by decide) rfl ?_
    refine j_ifb_eq (tgt := 22) jb dX11_row_15 (by decide) (fun c_15 => ?_) (fun c_15 => ?_)
    · skip
      refine j_iconst jb dX11_row_22 ?_
      refine j_norm (lv' := [(0, .ref m0), (1, .int (iI rr)), (2, .int (iI wh))]) (st' := [.int (iI 0)]) (ws' := [(m0, oX11 sa ct sb ow s0 pk pd rd op sp), (pd, oX5 u1 u2 un uch utn ubi), (u1, oX8 uk1 ux1 ukd1 uws1 ub1 up1), (uk1, aI x.g 16 UK1), (ux1, aI x.g 16 UX1), (u2, oX8 uk2 ux2 ukd2 uws2 ub2 up2), (uk2, aI x.g 16 UK2), (ux2, aI x.g 16 UX2)]) [0, 1, 2] [0, 1, 2, 3, 4, 5, 6, 7] rfl rfl (by decide) rfl ?_
      exact J23 0 (by omega)
    · skip
      refine j_iconst jb dX11_row_18 ?_
      refine j_goto (tgt := 23) jb dX11_row_19 (by decide) ?_
      refine j_norm (lv' := [(0, .ref m0), (1, .int (iI rr)), (2, .int (iI wh))]) (st' := [.int (iI 1)]) (ws' := [(m0, oX11 sa ct sb ow s0 pk pd rd op sp), (pd, oX5 u1 u2 un uch utn ubi), (u1, oX8 uk1 ux1 ukd1 uws1 ub1 up1), (uk1, aI x.g 16 UK1), (ux1, aI x.g 16 UX1), (u2, oX8 uk2 ux2 ukd2 uws2 ub2 up2), (uk2, aI x.g 16 UK2), (ux2, aI x.g 16 UX2)]) [0, 1, 2] [0, 1, 2, 3, 4, 5, 6, 7] rfl rfl (by decide) rfl ?_
      exact J23 1 (by omega)

set_option maxHeartbeats 4000000 in
set_option maxRecDepth 100000 in
theorem C_X11_size (l : Launch) (g : GG) (m0 sa ct ow s0 pk pd rd op sp : Nat) (h1 : Nat) (sb len fa pos : Int)  : Ctr l g yX11_size cX11_size 1 (some .int) 0 0 0 0 [.ref m0] [(m0, oX11 sa ct sb ow s0 pk pd rd op sp), (s0, oX0 h1 len fa pos)] (fun vv ww => vv = some (.int (iI len)) ∧ ww = [(m0, oX11 sa ct sb ow s0 pk pd rd op sp), (s0, oX0 h1 len fa pos)]) := by
  refine Ctr.of [(0, .ref m0)] (by decide) (Nat.le_of_ble_eq_true rfl) rfl ?_
  intro x hxl hxg jb jr hin
  subst hxl; subst hxg
  refine j_aload_n jb dX11_size_0 0 rfl ?_
  refine j_get jb f_X11_32 dX11_size_1 0 rfl rfl ?_
  refine j_get jb f_X11_90 dX11_size_4 1 rfl rfl ?_
  refine j_norm (lv' := []) (st' := [.int (iI len)]) (ws' := [(m0, oX11 sa ct sb ow s0 pk pd rd op sp), (s0, oX0 h1 len fa pos)]) [] [0, 1] rfl rfl (by decide) rfl ?_
  exact j_iret jb jr dX11_size_7 ⟨rfl, rfl⟩

set_option maxHeartbeats 4000000 in
set_option maxRecDepth 100000 in
theorem C_X11_at (l : Launch) (g : GG) (m0 sa ct ow s0 pk pd rd op sp : Nat) (h1 : Nat) (sb len fa pos : Int) (B : Int → Int) (i : Int) (hl : 0 ≤ len ∧ len ≤ 2400) (hi : inR i) : Ctr l g yX11_at cX11_at 2 (some .int) 1 30 0 0 [.ref m0, .int (iI i)] [(m0, oX11 sa ct sb ow s0 pk pd rd op sp), (s0, oX0 h1 len fa pos), (h1, aI g 2400 B)] (fun vv ww => ∃ (r : Int), vv = some (.int (iI r)) ∧ ww = [(m0, oX11 sa ct sb ow s0 pk pd rd op sp), (s0, oX0 h1 len fa pos), (h1, aI g 2400 B)] ∧ ((0 ≤ i ∧ i < len) → r = B i) ∧ (¬ (0 ≤ i ∧ i < len) → r = -2)) := by
  refine Ctr.of [(0, .ref m0), (1, .int (iI i))] (by decide) (Nat.le_of_ble_eq_true rfl) rfl ?_
  intro x hxl hxg jb jr hin
  subst hxl; subst hxg
  refine j_aload_n jb dX11_at_0 0 rfl ?_
  refine j_get jb f_X11_32 dX11_at_1 0 rfl rfl ?_
  refine j_iload_n jb dX11_at_4 1 rfl ?_
  refine j_callV (wr := [(m0, oX11 sa ct sb ow s0 pk pd rd op sp), (h1, aI x.g 2400 B)]) jb k_X0_has i_X0_has s_X0_has l_X11_162 (C_X0_has x.l x.g s0 h1 len fa pos i (by omega) (by omega)) 1 2 rfl rfl rfl [1] [0, 2] (by decide) rfl rfl (by decide) (by decide) rfl rfl (Nat.le_of_ble_eq_true rfl) (by decide) dX11_at_5 (fun v w hp => ?_)
  obtain ⟨rfl, rfl⟩ := hp
  refine j_norm (lv' := [(0, .ref m0), (1, .int (iI i))]) (st' := [.int (iI (b2i (0 ≤ i ∧ i < len)))]) (ws' := [(m0, oX11 sa ct sb ow s0 pk pd rd op sp), (s0, oX0 h1 len fa pos), (h1, aI x.g 2400 B)]) [0, 1] [0, 2, 1] rfl rfl (by decide) rfl ?_
  refine j_ifb_eq (tgt := 23) jb dX11_at_8 (by decide) (fun c_8 => ?_) (fun c_8 => ?_)
  · skip
    refine j_bipush jb dX11_at_23 (by decide) ?_
    refine j_norm (lv' := []) (st' := [.int (iI (-2))]) (ws' := [(m0, oX11 sa ct sb ow s0 pk pd rd op sp), (s0, oX0 h1 len fa pos), (h1, aI x.g 2400 B)]) [] [0, 1, 2] rfl rfl (by decide) rfl ?_
    exact j_iret jb jr dX11_at_25 ⟨_, rfl, rfl, (by omega)⟩
  · skip
    refine j_aload_n jb dX11_at_11 0 rfl ?_
    refine j_get jb f_X11_32 dX11_at_12 0 rfl rfl ?_
    refine j_get jb f_X11_165 dX11_at_15 1 rfl rfl ?_
    refine j_iload_n jb dX11_at_18 1 rfl ?_
    refine j_iald jb dX11_at_19 2 rfl (by omega) (by decide) ?_
    refine j_goto (tgt := 25) jb dX11_at_20 (by decide) ?_
    refine j_norm (lv' := []) (st' := [.int (iI (B i))]) (ws' := [(m0, oX11 sa ct sb ow s0 pk pd rd op sp), (s0, oX0 h1 len fa pos), (h1, aI x.g 2400 B)]) [] [0, 1, 2] rfl rfl (by decide) rfl ?_
    exact j_iret jb jr dX11_at_25 ⟨_, rfl, rfl, (by omega)⟩

set_option maxHeartbeats 4000000 in
set_option maxRecDepth 100000 in
theorem C_X11_alter (l : Launch) (g : GG) (m0 sa ct ow s0 pk pd rd op sp : Nat) (h1 : Nat) (sb len fa pos : Int) (B : Int → Int) (i b : Int) (hl : 0 ≤ len ∧ len ≤ 2400) (hi : inR i) (hb : inR b) : Ctr l g yX11_alter cX11_alter 4 (some .int) 1 30 0 0 [.ref m0, .int (iI i), .int (iI b)] [(m0, oX11 sa ct sb ow s0 pk pd rd op sp), (s0, oX0 h1 len fa pos), (h1, aI g 2400 B)] (fun vv ww => ∃ (r : Int) (B2 : Int → Int), vv = some (.int (iI r)) ∧ ww = [(m0, oX11 sa ct sb ow s0 pk pd rd op sp), (s0, oX0 h1 len fa pos), (h1, aI g 2400 B2)] ∧ ((0 ≤ i ∧ i < len) ∧ (0 ≤ b ∧ b ≤ 255) → r = B i ∧ B2 = zup B i b) ∧ (¬ ((0 ≤ i ∧ i < len) ∧ (0 ≤ b ∧ b ≤ 255)) → r = -2 ∧ B2 = B)) := by
  refine Ctr.of [(0, .ref m0), (1, .int (iI i)), (2, .int (iI b))] (by decide) (Nat.le_of_ble_eq_true rfl) rfl ?_
  intro x hxl hxg jb jr hin
  subst hxl; subst hxg
  refine j_aload_n jb dX11_alter_0 0 rfl ?_
  refine j_get jb f_X11_32 dX11_alter_1 0 rfl rfl ?_
  refine j_iload_n jb dX11_alter_4 1 rfl ?_
  refine j_callV (wr := [(m0, oX11 sa ct sb ow s0 pk pd rd op sp), (h1, aI x.g 2400 B)]) jb k_X0_has i_X0_has s_X0_has l_X11_162 (C_X0_has x.l x.g s0 h1 len fa pos i (by omega) (by omega)) 1 2 rfl rfl rfl [1] [0, 2] (by decide) rfl rfl (by decide) (by decide) rfl rfl (Nat.le_of_ble_eq_true rfl) (by decide) dX11_alter_5 (fun v w hp => ?_)
  obtain ⟨rfl, rfl⟩ := hp
  refine j_norm (lv' := [(0, .ref m0), (1, .int (iI i)), (2, .int (iI b))]) (st' := [.int (iI (b2i (0 ≤ i ∧ i < len)))]) (ws' := [(m0, oX11 sa ct sb ow s0 pk pd rd op sp), (s0, oX0 h1 len fa pos), (h1, aI x.g 2400 B)]) [0, 1, 2] [0, 2, 1] rfl rfl (by decide) rfl ?_
  refine j_ifb_eq (tgt := 18) jb dX11_alter_8 (by decide) (fun c_8 => ?_) (fun c_8 => ?_)
  · skip
    refine j_bipush jb dX11_alter_18 (by decide) ?_
    refine j_norm (lv' := []) (st' := [.int (iI (-2))]) (ws' := [(m0, oX11 sa ct sb ow s0 pk pd rd op sp), (s0, oX0 h1 len fa pos), (h1, aI x.g 2400 B)]) [] [0, 1, 2] rfl rfl (by decide) rfl ?_
    exact j_iret jb jr dX11_alter_20 ⟨_, _, rfl, rfl, ⟨fun q => absurd q (by omega), fun _ => ⟨rfl, rfl⟩⟩⟩
  · skip
    refine j_iload_n jb dX11_alter_11 2 rfl ?_
    refine j_callS (wr := [(m0, oX11 sa ct sb ow s0 pk pd rd op sp), (s0, oX0 h1 len fa pos), (h1, aI x.g 2400 B)]) jb k_X11_isByte t_X11_isByte l_X11_168 (C_X11_isByte x.l x.g b (by omega)) [] [0, 1, 2] (by decide) rfl rfl (by decide) (by decide) rfl rfl (Nat.le_of_ble_eq_true rfl) (by decide) dX11_alter_12 (fun v w hp => ?_)
    obtain ⟨rfl, rfl⟩ := hp
    refine j_norm (lv' := [(0, .ref m0), (1, .int (iI i)), (2, .int (iI b))]) (st' := [.int (iI (b2i (0 ≤ b ∧ b ≤ 255)))]) (ws' := [(m0, oX11 sa ct sb ow s0 pk pd rd op sp), (s0, oX0 h1 len fa pos), (h1, aI x.g 2400 B)]) [0, 1, 2] [0, 1, 2] rfl rfl (by decide) rfl ?_
    refine j_ifb_ne (tgt := 21) jb dX11_alter_15 (by decide) (fun c_15 => ?_) (fun c_15 => ?_)
    · skip
      refine j_aload_n jb dX11_alter_21 0 rfl ?_
      refine j_get jb f_X11_32 dX11_alter_22 0 rfl rfl ?_
      refine j_get jb f_X11_165 dX11_alter_25 1 rfl rfl ?_
      refine j_iload_n jb dX11_alter_28 1 rfl ?_
      refine j_iald jb dX11_alter_29 2 rfl (by omega) (by decide) ?_
      refine j_istore_n (lv' := [(3, .int (iI (B i))), (0, .ref m0), (1, .int (iI i)), (2, .int (iI b))]) jb dX11_alter_30 rfl (by decide) rfl ?_
      refine j_aload_n jb dX11_alter_31 1 rfl ?_
      refine j_get jb f_X11_32 dX11_alter_32 0 rfl rfl ?_
      refine j_get jb f_X11_165 dX11_alter_35 1 rfl rfl ?_
      refine j_iload_n jb dX11_alter_38 2 rfl ?_
      refine j_iload_n jb dX11_alter_39 3 rfl ?_
      refine j_iast (ws' := [(m0, oX11 sa ct sb ow s0 pk pd rd op sp), (s0, oX0 h1 len fa pos), (h1, aI x.g 2400 (zup B i b))]) jb dX11_alter_40 2 rfl (by omega) (by decide) rfl ?_
      refine j_iload_n jb dX11_alter_41 0 rfl ?_
      refine j_norm (lv' := []) (st' := [.int (iI (B i))]) (ws' := [(m0, oX11 sa ct sb ow s0 pk pd rd op sp), (s0, oX0 h1 len fa pos), (h1, aI x.g 2400 (zup B i b))]) [] [0, 1, 2] rfl rfl (by decide) rfl ?_
      exact j_iret jb jr dX11_alter_42 ⟨_, _, rfl, rfl, ⟨fun _ => ⟨rfl, rfl⟩, fun q => absurd q (by omega)⟩⟩
    · skip
      refine j_bipush jb dX11_alter_18 (by decide) ?_
      refine j_norm (lv' := []) (st' := [.int (iI (-2))]) (ws' := [(m0, oX11 sa ct sb ow s0 pk pd rd op sp), (s0, oX0 h1 len fa pos), (h1, aI x.g 2400 B)]) [] [0, 1, 2] rfl rfl (by decide) rfl ?_
      exact j_iret jb jr dX11_alter_20 ⟨_, _, rfl, rfl, ⟨fun q => absurd q (by omega), fun _ => ⟨rfl, rfl⟩⟩⟩

set_option maxHeartbeats 4000000 in
set_option maxRecDepth 100000 in
theorem C_X11_add (l : Launch) (g : GG) (m0 sa ct ow s0 pk pd rd op sp : Nat) (h1 : Nat) (sb len fa pos : Int) (B : Int → Int) (b : Int) (hl : 0 ≤ len ∧ len ≤ 2400) (hb : inR b) : Ctr l g yX11_add cX11_add 2 (some .int) 1 30 0 0 [.ref m0, .int (iI b)] [(m0, oX11 sa ct sb ow s0 pk pd rd op sp), (s0, oX0 h1 len fa pos), (h1, aI g 2400 B)] (fun vv ww => ∃ (r len2 : Int) (B2 : Int → Int), vv = some (.int (iI r)) ∧ ww = [(m0, oX11 sa ct sb ow s0 pk pd rd op sp), (s0, oX0 h1 len2 fa pos), (h1, aI g 2400 B2)] ∧ (¬ (0 ≤ b ∧ b ≤ 255) → r = -2 ∧ len2 = len ∧ B2 = B) ∧ ((0 ≤ b ∧ b ≤ 255) ∧ 2400 ≤ len → r = -4 ∧ len2 = len ∧ B2 = B) ∧ ((0 ≤ b ∧ b ≤ 255) ∧ len < 2400 → r = len + 1 ∧ len2 = len + 1 ∧ B2 = zup B len b)) := by
  refine Ctr.of [(0, .ref m0), (1, .int (iI b))] (by decide) (Nat.le_of_ble_eq_true rfl) rfl ?_
  intro x hxl hxg jb jr hin
  subst hxl; subst hxg
  refine j_iload_n jb dX11_add_0 1 rfl ?_
  refine j_callS (wr := [(m0, oX11 sa ct sb ow s0 pk pd rd op sp), (s0, oX0 h1 len fa pos), (h1, aI x.g 2400 B)]) jb k_X11_isByte t_X11_isByte l_X11_168 (C_X11_isByte x.l x.g b (by omega)) [] [0, 1, 2] (by decide) rfl rfl (by decide) (by decide) rfl rfl (Nat.le_of_ble_eq_true rfl) (by decide) dX11_add_1 (fun v w hp => ?_)
  obtain ⟨rfl, rfl⟩ := hp
  refine j_norm (lv' := [(0, .ref m0), (1, .int (iI b))]) (st' := [.int (iI (b2i (0 ≤ b ∧ b ≤ 255)))]) (ws' := [(m0, oX11 sa ct sb ow s0 pk pd rd op sp), (s0, oX0 h1 len fa pos), (h1, aI x.g 2400 B)]) [0, 1] [0, 1, 2] rfl rfl (by decide) rfl ?_
  refine j_ifb_ne (tgt := 10) jb dX11_add_4 (by decide) (fun c_4 => ?_) (fun c_4 => ?_)
  · skip
    refine j_aload_n jb dX11_add_10 0 rfl ?_
    refine j_get jb f_X11_32 dX11_add_11 0 rfl rfl ?_
    refine j_get jb f_X11_90 dX11_add_14 1 rfl rfl ?_
    refine j_sipush jb dX11_add_17 (by decide) ?_
    refine j_icmp_lt (tgt := 26) jb dX11_add_20 (by decide) (by omega) (by omega) (fun c_20 => ?_) (fun c_20 => ?_)
    · skip
      refine j_aload_n jb dX11_add_26 0 rfl ?_
      refine j_get jb f_X11_32 dX11_add_27 0 rfl rfl ?_
      refine j_get jb f_X11_165 dX11_add_30 1 rfl rfl ?_
      refine j_aload_n jb dX11_add_33 0 rfl ?_
      refine j_get jb f_X11_32 dX11_add_34 0 rfl rfl ?_
      refine j_get jb f_X11_90 dX11_add_37 1 rfl rfl ?_
      refine j_iload_n jb dX11_add_40 1 rfl ?_
      refine j_iast (ws' := [(m0, oX11 sa ct sb ow s0 pk pd rd op sp), (s0, oX0 h1 len fa pos), (h1, aI x.g 2400 (zup B len b))]) jb dX11_add_41 2 rfl (by omega) (by decide) rfl ?_
      refine j_aload_n jb dX11_add_42 0 rfl ?_
      refine j_get jb f_X11_32 dX11_add_43 0 rfl rfl ?_
      refine j_dup jb dX11_add_46 rfl ?_
      refine j_get jb f_X11_90 dX11_add_47 1 rfl rfl ?_
      refine j_iconst jb dX11_add_50 ?_
      refine j_iadd jb dX11_add_51 ?_
      refine j_put (ws' := [(m0, oX11 sa ct sb ow s0 pk pd rd op sp), (s0, oX0 h1 (len + 1) fa pos), (h1, aI x.g 2400 (zup B len b))]) jb f_X11_90 w_X0_1 rfl dX11_add_52 1 rfl rfl rfl (Nat.le_of_ble_eq_true rfl) rfl ?_
      refine j_aload_n jb dX11_add_55 0 rfl ?_
      refine j_get jb f_X11_32 dX11_add_56 0 rfl rfl ?_
      refine j_get jb f_X11_90 dX11_add_59 1 rfl rfl ?_
      refine j_norm (lv' := []) (st' := [.int (iI (len + 1))]) (ws' := [(m0, oX11 sa ct sb ow s0 pk pd rd op sp), (s0, oX0 h1 (len + 1) fa pos), (h1, aI x.g 2400 (zup B len b))]) [] [0, 1, 2] rfl rfl (by decide) rfl ?_
      exact j_iret jb jr dX11_add_62 ⟨_, _, _, rfl, rfl, ⟨fun q => absurd q (by omega), fun q => absurd q (by omega), fun _ => ⟨rfl, rfl, rfl⟩⟩⟩
    · skip
      refine j_bipush jb dX11_add_23 (by decide) ?_
      refine j_norm (lv' := []) (st' := [.int (iI (-4))]) (ws' := [(m0, oX11 sa ct sb ow s0 pk pd rd op sp), (s0, oX0 h1 len fa pos), (h1, aI x.g 2400 B)]) [] [0, 1, 2] rfl rfl (by decide) rfl ?_
      exact j_iret jb jr dX11_add_25 ⟨_, _, _, rfl, rfl, ⟨fun q => absurd q (by omega), fun _ => ⟨rfl, rfl, rfl⟩, fun q => absurd q (by omega)⟩⟩
  · skip
    refine j_bipush jb dX11_add_7 (by decide) ?_
    refine j_norm (lv' := []) (st' := [.int (iI (-2))]) (ws' := [(m0, oX11 sa ct sb ow s0 pk pd rd op sp), (s0, oX0 h1 len fa pos), (h1, aI x.g 2400 B)]) [] [0, 1, 2] rfl rfl (by decide) rfl ?_
    exact j_iret jb jr dX11_add_9 ⟨_, _, _, rfl, rfl, ⟨fun _ => ⟨rfl, rfl, rfl⟩, fun q => absurd q (by omega), fun q => absurd q (by omega)⟩⟩

set_option maxHeartbeats 4000000 in
set_option maxRecDepth 100000 in
theorem C_X11_cut (l : Launch) (g : GG) (m0 sa ct ow s0 pk pd rd op sp : Nat) (h1 : Nat) (sb len fa pos n : Int) (hl : 0 ≤ len ∧ len ≤ 2400) (hn : inR n) : Ctr l g yX11_cut cX11_cut 3 (some .int) 0 0 0 0 [.ref m0, .int (iI n)] [(m0, oX11 sa ct sb ow s0 pk pd rd op sp), (s0, oX0 h1 len fa pos)] (fun vv ww => ∃ (r len2 : Int), vv = some (.int (iI r)) ∧ ww = [(m0, oX11 sa ct sb ow s0 pk pd rd op sp), (s0, oX0 h1 len2 fa pos)] ∧ (¬ (0 ≤ n ∧ n ≤ len) → r = -2 ∧ len2 = len) ∧ ((0 ≤ n ∧ n ≤ len) → r = len - n ∧ len2 = n)) := by
  refine Ctr.of [(0, .ref m0), (1, .int (iI n))] (by decide) (Nat.le_of_ble_eq_true rfl) rfl ?_
  intro x hxl hxg jb jr hin
  subst hxl; subst hxg
  refine j_iload_n jb dX11_cut_0 1 rfl ?_
  refine j_if_lt (tgt := 15) jb dX11_cut_1 (by decide) (by omega) (fun c_1 => ?_) (fun c_1 => ?_)
  · skip
    refine j_bipush jb dX11_cut_15 (by decide) ?_
    refine j_norm (lv' := []) (st' := [.int (iI (-2))]) (ws' := [(m0, oX11 sa ct sb ow s0 pk pd rd op sp), (s0, oX0 h1 len fa pos)]) [] [0, 1] rfl rfl (by decide) rfl ?_
    exact j_iret jb jr dX11_cut_17 ⟨_, _, rfl, rfl, (by omega)⟩
  · skip
    refine j_iload_n jb dX11_cut_4 1 rfl ?_
    refine j_aload_n jb dX11_cut_5 0 rfl ?_
    refine j_get jb f_X11_32 dX11_cut_6 0 rfl rfl ?_
    refine j_get jb f_X11_90 dX11_cut_9 1 rfl rfl ?_
    refine j_icmp_le (tgt := 18) jb dX11_cut_12 (by decide) (by omega) (by omega) (fun c_12 => ?_) (fun c_12 => ?_)
    · skip
      refine j_aload_n jb dX11_cut_18 0 rfl ?_
      refine j_get jb f_X11_32 dX11_cut_19 0 rfl rfl ?_
      refine j_get jb f_X11_90 dX11_cut_22 1 rfl rfl ?_
      refine j_iload_n jb dX11_cut_25 1 rfl ?_
      refine j_isub jb dX11_cut_26 ?_
      refine j_istore_n (lv' := [(2, .int (iI (len - n))), (0, .ref m0), (1, .int (iI n))]) jb dX11_cut_27 rfl (by decide) rfl ?_
      refine j_aload_n jb dX11_cut_28 1 rfl ?_
      refine j_get jb f_X11_32 dX11_cut_29 0 rfl rfl ?_
      refine j_iload_n jb dX11_cut_32 2 rfl ?_
      refine j_put (ws' := [(m0, oX11 sa ct sb ow s0 pk pd rd op sp), (s0, oX0 h1 n fa pos)]) jb f_X11_90 w_X0_1 rfl dX11_cut_33 1 rfl rfl rfl (Nat.le_of_ble_eq_true rfl) rfl ?_
      refine j_iload_n jb dX11_cut_36 0 rfl ?_
      refine j_norm (lv' := []) (st' := [.int (iI (len - n))]) (ws' := [(m0, oX11 sa ct sb ow s0 pk pd rd op sp), (s0, oX0 h1 n fa pos)]) [] [0, 1] rfl rfl (by decide) rfl ?_
      exact j_iret jb jr dX11_cut_37 ⟨_, _, rfl, rfl, (by omega)⟩
    · skip
      refine j_bipush jb dX11_cut_15 (by decide) ?_
      refine j_norm (lv' := []) (st' := [.int (iI (-2))]) (ws' := [(m0, oX11 sa ct sb ow s0 pk pd rd op sp), (s0, oX0 h1 len fa pos)]) [] [0, 1] rfl rfl (by decide) rfl ?_
      exact j_iret jb jr dX11_cut_17 ⟨_, _, rfl, rfl, (by omega)⟩

set_option maxHeartbeats 4000000 in
set_option maxRecDepth 100000 in
theorem C_X11_shown (l : Launch) (g : GG) (m0 sa ct ow s0 pk pd rd op sp : Nat) (or ok : Nat) (sb wh on och otn osb obh : Int) (okk : Int → Int) (hw : inR wh) (hon : inR on) : Ctr l g yX11_shown cX11_shown 2 (some .int) 0 0 0 0 [.ref m0, .int (iI wh)] [(m0, oX11 sa ct sb ow s0 pk pd rd op sp), (op, oX4 or ok on och otn osb obh), (ok, aI g 2 okk)] (fun vv ww => ∃ (r : Int), vv = some (.int (iI r)) ∧ ww = [(m0, oX11 sa ct sb ow s0 pk pd rd op sp), (op, oX4 or ok on och otn osb obh), (ok, aI g 2 okk)] ∧ (¬ (0 ≤ wh ∧ wh ≤ 6) → r = -2) ∧ ((0 ≤ wh ∧ wh ≤ 6) ∧ on = 0 → r = -3) ∧ (¬ on = 0 → (wh = 0 → r = on) ∧ (wh = 1 → r = och) ∧ (wh = 2 → r = otn) ∧ (wh = 3 → r = osb) ∧ (wh = 4 → r = obh) ∧ (wh = 5 → r = okk 0) ∧ (wh = 6 → r = okk 1))) := by
  refine Ctr.of [(0, .ref m0), (1, .int (iI wh))] (by decide) (Nat.le_of_ble_eq_true rfl) rfl ?_
  intro x hxl hxg jb jr hin
  subst hxl; subst hxg
  refine j_iload_n jb dX11_shown_0 1 rfl ?_
  refine j_if_lt (tgt := 10) jb dX11_shown_1 (by decide) (by omega) (fun c_1 => ?_) (fun c_1 => ?_)
  · skip
    refine j_bipush jb dX11_shown_10 (by decide) ?_
    refine j_norm (lv' := []) (st' := [.int (iI (-2))]) (ws' := [(m0, oX11 sa ct sb ow s0 pk pd rd op sp), (op, oX4 or ok on och otn osb obh), (ok, aI x.g 2 okk)]) [] [0, 1, 2] rfl rfl (by decide) rfl ?_
    exact j_iret jb jr dX11_shown_12 ⟨_, rfl, rfl, (by omega)⟩
  · skip
    refine j_iload_n jb dX11_shown_4 1 rfl ?_
    refine j_bipush jb dX11_shown_5 (by decide) ?_
    refine j_icmp_le (tgt := 13) jb dX11_shown_7 (by decide) (by omega) (by omega) (fun c_7 => ?_) (fun c_7 => ?_)
    · skip
      refine j_aload_n jb dX11_shown_13 0 rfl ?_
      refine j_get jb f_X11_64 dX11_shown_14 0 rfl rfl ?_
      refine j_get jb f_X11_175 dX11_shown_17 1 rfl rfl ?_
      refine j_if_ne (tgt := 26) jb dX11_shown_20 (by decide) (by omega) (fun c_20 => ?_) (fun c_20 => ?_)
      · skip
        rcases (show wh = 0 ∨ wh = 1 ∨ wh = 2 ∨ wh = 3 ∨ wh = 4 ∨ wh = 5 ∨ wh = 6 by omega) with e | e | e | e | e | e | e
        · skip
          subst e
          refine j_iload_n jb dX11_shown_26 1 rfl ?_
          refine j_tswIn (tgt := 64) jb dX11_shown_27 (by decide) (by decide) rfl (by decide) ?_
          refine j_aload_n jb dX11_shown_64 0 rfl ?_
          refine j_get jb f_X11_64 dX11_shown_65 0 rfl rfl ?_
          refine j_get jb f_X11_175 dX11_shown_68 1 rfl rfl ?_
          refine j_norm (lv' := []) (st' := [.int (iI on)]) (ws' := [(m0, oX11 sa ct sb ow s0 pk pd rd op sp), (op, oX4 or ok on och otn osb obh), (ok, aI x.g 2 okk)]) [] [0, 1, 2] rfl rfl (by decide) rfl ?_
          exact j_iret jb jr dX11_shown_71 ⟨_, rfl, rfl, (by omega)⟩
        · skip
          subst e
          refine j_iload_n jb dX11_shown_26 1 rfl ?_
          refine j_tswIn (tgt := 72) jb dX11_shown_27 (by decide) (by decide) rfl (by decide) ?_
          refine j_aload_n jb dX11_shown_72 0 rfl ?_
          refine j_get jb f_X11_64 dX11_shown_73 0 rfl rfl ?_
          refine j_get jb f_X11_176 dX11_shown_76 1 rfl rfl ?_
          refine j_norm (lv' := []) (st' := [.int (iI och)]) (ws' := [(m0, oX11 sa ct sb ow s0 pk pd rd op sp), (op, oX4 or ok on och otn osb obh), (ok, aI x.g 2 okk)]) [] [0, 1, 2] rfl rfl (by decide) rfl ?_
          exact j_iret jb jr dX11_shown_79 ⟨_, rfl, rfl, (by omega)⟩
        · skip
          subst e
          refine j_iload_n jb dX11_shown_26 1 rfl ?_
          refine j_tswIn (tgt := 80) jb dX11_shown_27 (by decide) (by decide) rfl (by decide) ?_
          refine j_aload_n jb dX11_shown_80 0 rfl ?_
          refine j_get jb f_X11_64 dX11_shown_81 0 rfl rfl ?_
          refine j_get jb f_X11_177 dX11_shown_84 1 rfl rfl ?_
          refine j_norm (lv' := []) (st' := [.int (iI otn)]) (ws' := [(m0, oX11 sa ct sb ow s0 pk pd rd op sp), (op, oX4 or ok on och otn osb obh), (ok, aI x.g 2 okk)]) [] [0, 1, 2] rfl rfl (by decide) rfl ?_
          exact j_iret jb jr dX11_shown_87 ⟨_, rfl, rfl, (by omega)⟩
        · skip
          subst e
          refine j_iload_n jb dX11_shown_26 1 rfl ?_
          refine j_tswIn (tgt := 88) jb dX11_shown_27 (by decide) (by decide) rfl (by decide) ?_
          refine j_aload_n jb dX11_shown_88 0 rfl ?_
          refine j_get jb f_X11_64 dX11_shown_89 0 rfl rfl ?_
          refine j_get jb f_X11_178 dX11_shown_92 1 rfl rfl ?_
          refine j_norm (lv' := []) (st' := [.int (iI osb)]) (ws' := [(m0, oX11 sa ct sb ow s0 pk pd rd op sp), (op, oX4 or ok on och otn osb obh), (ok, aI x.g 2 okk)]) [] [0, 1, 2] rfl rfl (by decide) rfl ?_
          exact j_iret jb jr dX11_shown_95 ⟨_, rfl, rfl, (by omega)⟩
        · skip
          subst e
          refine j_iload_n jb dX11_shown_26 1 rfl ?_
          refine j_tswIn (tgt := 96) jb dX11_shown_27 (by decide) (by decide) rfl (by decide) ?_
          refine j_aload_n jb dX11_shown_96 0 rfl ?_
          refine j_get jb f_X11_64 dX11_shown_97 0 rfl rfl ?_
          refine j_get jb f_X11_179 dX11_shown_100 1 rfl rfl ?_
          refine j_norm (lv' := []) (st' := [.int (iI obh)]) (ws' := [(m0, oX11 sa ct sb ow s0 pk pd rd op sp), (op, oX4 or ok on och otn osb obh), (ok, aI x.g 2 okk)]) [] [0, 1, 2] rfl rfl (by decide) rfl ?_
          exact j_iret jb jr dX11_shown_103 ⟨_, rfl, rfl, (by omega)⟩
        · skip
          subst e
          refine j_iload_n jb dX11_shown_26 1 rfl ?_
          refine j_tswIn (tgt := 104) jb dX11_shown_27 (by decide) (by decide) rfl (by decide) ?_
          refine j_aload_n jb dX11_shown_104 0 rfl ?_
          refine j_get jb f_X11_64 dX11_shown_105 0 rfl rfl ?_
          refine j_get jb f_X11_182 dX11_shown_108 1 rfl rfl ?_
          refine j_iconst jb dX11_shown_111 ?_
          refine j_iald jb dX11_shown_112 2 rfl (by omega) (by decide) ?_
          refine j_norm (lv' := []) (st' := [.int (iI (okk 0))]) (ws' := [(m0, oX11 sa ct sb ow s0 pk pd rd op sp), (op, oX4 or ok on och otn osb obh), (ok, aI x.g 2 okk)]) [] [0, 1, 2] rfl rfl (by decide) rfl ?_
          exact j_iret jb jr dX11_shown_113 ⟨_, rfl, rfl, (by omega)⟩
        · skip
          subst e
          refine j_iload_n jb dX11_shown_26 1 rfl ?_
          refine j_tswOut (tgt := 114) jb dX11_shown_27 (by decide) (by decide) ?_
          refine j_aload_n jb dX11_shown_114 0 rfl ?_
          refine j_get jb f_X11_64 dX11_shown_115 0 rfl rfl ?_
          refine j_get jb f_X11_182 dX11_shown_118 1 rfl rfl ?_
          refine j_iconst jb dX11_shown_121 ?_
          refine j_iald jb dX11_shown_122 2 rfl (by omega) (by decide) ?_
          refine j_norm (lv' := []) (st' := [.int (iI (okk 1))]) (ws' := [(m0, oX11 sa ct sb ow s0 pk pd rd op sp), (op, oX4 or ok on och otn osb obh), (ok, aI x.g 2 okk)]) [] [0, 1, 2] rfl rfl (by decide) rfl ?_
          exact j_iret jb jr dX11_shown_123 ⟨_, rfl, rfl, (by omega)⟩
      · skip
        refine j_bipush jb dX11_shown_23 (by decide) ?_
        refine j_norm (lv' := []) (st' := [.int (iI (-3))]) (ws' := [(m0, oX11 sa ct sb ow s0 pk pd rd op sp), (op, oX4 or ok on och otn osb obh), (ok, aI x.g 2 okk)]) [] [0, 1, 2] rfl rfl (by decide) rfl ?_
        exact j_iret jb jr dX11_shown_25 ⟨_, rfl, rfl, (by omega)⟩
    · skip
      refine j_bipush jb dX11_shown_10 (by decide) ?_
      refine j_norm (lv' := []) (st' := [.int (iI (-2))]) (ws' := [(m0, oX11 sa ct sb ow s0 pk pd rd op sp), (op, oX4 or ok on och otn osb obh), (ok, aI x.g 2 okk)]) [] [0, 1, 2] rfl rfl (by decide) rfl ?_
      exact j_iret jb jr dX11_shown_12 ⟨_, rfl, rfl, (by omega)⟩

set_option maxHeartbeats 4000000 in
set_option maxRecDepth 100000 in
theorem C_X11_take (l : Launch) (g : GG) (m0 sa ct ow s0 pk pd rd op sp : Nat) (q0 q1 or ok oa ob : Nat) (sb on och otn osb obh : Int) (cn f0 f1 e0 e1 : Int → Int) (hn : 0 ≤ on ∧ on ≤ 400) (hch : ¬ on = 0 → och = 1 ∨ och = 2) : Ctr l g yX11_take cX11_take 3 (some .int) 1 60 0 0 [.ref m0] [(m0, oX11 sa ct sb ow s0 pk pd rd op sp), (ct, aI g 2 cn), (sa, aG g 2 (rf2 q0 q1)), (q0, aI g 400 f0), (q1, aI g 400 f1), (op, oX4 or ok on och otn osb obh), (or, aG g 2 (rf2 oa ob)), (oa, aI g 400 e0), (ob, aI g 400 e1)] (fun vv ww => ∃ (r sb2 : Int) (cn2 d0 d1 : Int → Int), vv = some (.int (iI r)) ∧ ww = [(m0, oX11 sa ct sb2 ow s0 pk pd rd op sp), (ct, aI g 2 cn2), (sa, aG g 2 (rf2 q0 q1)), (q0, aI g 400 d0), (q1, aI g 400 d1), (op, oX4 or ok on och otn osb obh), (or, aG g 2 (rf2 oa ob)), (oa, aI g 400 e0), (ob, aI g 400 e1)] ∧ (on = 0 → r = -3 ∧ sb2 = sb ∧ cn2 = cn ∧ d0 = f0 ∧ d1 = f1) ∧ (¬ on = 0 → r = on ∧ sb2 = osb ∧ cn2 0 = on ∧ cn2 1 = (if och = 2 then on else 0) ∧ eqOn d0 e0 0 on ∧ (och = 2 → eqOn d1 e1 0 on))) := by
  refine Ctr.of [(0, .ref m0)] (by decide) (Nat.le_of_ble_eq_true rfl) rfl ?_
  intro x hxl hxg jb jr hin
  subst hxl; subst hxg
  refine j_aload_n jb dX11_take_0 0 rfl ?_
  refine j_get jb f_X11_64 dX11_take_1 0 rfl rfl ?_
  refine j_get jb f_X11_175 dX11_take_4 5 rfl rfl ?_
  refine j_istore_n (lv' := [(1, .int (iI on)), (0, .ref m0)]) jb dX11_take_7 rfl (by decide) rfl ?_
  refine j_iload_n jb dX11_take_8 0 rfl ?_
  refine j_if_ne (tgt := 15) jb dX11_take_9 (by decide) (by omega) (fun c_9 => ?_) (fun c_9 => ?_)
  · skip
    rcases hch c_9 with e9 | e9
    · skip
      subst e9
      refine j_iconst jb dX11_take_15 ?_
      refine j_istore_n (lv' := [(2, .int (iI 0)), (1, .int (iI on)), (0, .ref m0)]) jb dX11_take_16 rfl (by decide) rfl ?_
      refine j_iload_n jb dX11_take_17 0 rfl ?_
      refine j_iconst jb dX11_take_18 ?_
      refine j_icmp_ge (tgt := 76) jb dX11_take_19 (by decide) (by decide) (by decide) (fun h => absurd h (by decide)) (fun _ => ?_)
      refine j_aload_n jb dX11_take_22 2 rfl ?_
      refine j_get jb f_X11_14 dX11_take_23 0 rfl rfl ?_
      refine j_iload_n jb dX11_take_26 0 rfl ?_
      refine j_iload_n jb dX11_take_27 0 rfl ?_
      refine j_aload_n jb dX11_take_28 2 rfl ?_
      refine j_get jb f_X11_64 dX11_take_29 0 rfl rfl ?_
      refine j_get jb f_X11_176 dX11_take_32 5 rfl rfl ?_
      refine j_icmp_ge (tgt := 42) jb dX11_take_35 (by decide) (by decide) (by decide) (fun h => absurd h (by decide)) (fun _ => ?_)
      refine j_iload_n jb dX11_take_38 1 rfl ?_
      refine j_goto (tgt := 43) jb dX11_take_39 (by decide) ?_
      refine j_iast (ws' := [(m0, oX11 sa ct sb ow s0 pk pd rd op sp), (ct, aI x.g 2 (zup cn 0 on)), (sa, aG x.g 2 (rf2 q0 q1)), (q0, aI x.g 400 f0), (q1, aI x.g 400 f1), (op, oX4 or ok on 1 otn osb obh), (or, aG x.g 2 (rf2 oa ob)), (oa, aI x.g 400 e0), (ob, aI x.g 400 e1)]) jb dX11_take_43 1 rfl (by omega) (by decide) rfl ?_
      refine j_aload_n jb dX11_take_44 2 rfl ?_
      refine j_get jb f_X11_64 dX11_take_45 0 rfl rfl ?_
      refine j_get jb f_X11_192 dX11_take_48 5 rfl rfl ?_
      refine j_iload_n jb dX11_take_51 0 rfl ?_
      refine j_aaldG (b := oa) jb dX11_take_52 6 rfl (by decide) (by decide) rfl ?_
      refine j_iconst jb dX11_take_53 ?_
      refine j_aload_n jb dX11_take_54 2 rfl ?_
      refine j_get jb f_X11_11 dX11_take_55 0 rfl rfl ?_
      refine j_iload_n jb dX11_take_58 0 rfl ?_
      refine j_aaldG (b := q0) jb dX11_take_59 2 rfl (by decide) (by decide) rfl ?_
      refine j_iconst jb dX11_take_60 ?_
      refine j_aload_n jb dX11_take_61 2 rfl ?_
      refine j_get jb f_X11_14 dX11_take_62 0 rfl rfl ?_
      refine j_iload_n jb dX11_take_65 0 rfl ?_
      refine j_iald jb dX11_take_66 1 rfl (by omega) (by decide) ?_
      refine j_copy (ws' := [(m0, oX11 sa ct sb ow s0 pk pd rd op sp), (ct, aI x.g 2 (zup cn 0 on)), (sa, aG x.g 2 (rf2 q0 q1)), (q0, aI x.g 400 (zcpy e0 f0 0 0 ((zup cn 0 on) 0))), (q1, aI x.g 400 f1), (op, oX4 or ok on 1 otn osb obh), (or, aG x.g 2 (rf2 oa ob)), (oa, aI x.g 400 e0), (ob, aI x.g 400 e1)]) jb l_X11_195 ac_native ac_static ac_init 7 3 rfl rfl (by first | (rw [zup_s]; omega) | omega) ⟨by decide, Nat.le_of_ble_eq_true rfl⟩ dX11_take_67 rfl ?_
      refine j_iinc (lv' := [(2, .int (iI (0 + 1))), (1, .int (iI on)), (0, .ref m0)]) jb dX11_take_70 0 rfl (by decide) rfl ?_
      refine j_goto (tgt := 17) jb dX11_take_73 (by decide) ?_
      refine j_iload_n jb dX11_take_17 0 rfl ?_
      refine j_iconst jb dX11_take_18 ?_
      refine j_icmp_ge (tgt := 76) jb dX11_take_19 (by decide) (by decide) (by decide) (fun h => absurd h (by decide)) (fun _ => ?_)
      refine j_aload_n jb dX11_take_22 2 rfl ?_
      refine j_get jb f_X11_14 dX11_take_23 0 rfl rfl ?_
      refine j_iload_n jb dX11_take_26 0 rfl ?_
      refine j_iload_n jb dX11_take_27 0 rfl ?_
      refine j_aload_n jb dX11_take_28 2 rfl ?_
      refine j_get jb f_X11_64 dX11_take_29 0 rfl rfl ?_
      refine j_get jb f_X11_176 dX11_take_32 5 rfl rfl ?_
      refine j_icmp_ge (tgt := 42) jb dX11_take_35 (by decide) (by decide) (by decide) (fun _ => ?_) (fun h => absurd h (by decide))
      refine j_iconst jb dX11_take_42 ?_
      refine j_iast (ws' := [(m0, oX11 sa ct sb ow s0 pk pd rd op sp), (ct, aI x.g 2 (zup (zup cn 0 on) (0 + 1) 0)), (sa, aG x.g 2 (rf2 q0 q1)), (q0, aI x.g 400 (zcpy e0 f0 0 0 ((zup cn 0 on) 0))), (q1, aI x.g 400 f1), (op, oX4 or ok on 1 otn osb obh), (or, aG x.g 2 (rf2 oa ob)), (oa, aI x.g 400 e0), (ob, aI x.g 400 e1)]) jb dX11_take_43 1 rfl (by omega) (by decide) rfl ?_
      refine j_aload_n jb dX11_take_44 2 rfl ?_
      refine j_get jb f_X11_64 dX11_take_45 0 rfl rfl ?_
      refine j_get jb f_X11_192 dX11_take_48 5 rfl rfl ?_
      refine j_iload_n jb dX11_take_51 0 rfl ?_
      refine j_aaldG (b := ob) jb dX11_take_52 6 rfl (by decide) (by decide) rfl ?_
      refine j_iconst jb dX11_take_53 ?_
      refine j_aload_n jb dX11_take_54 2 rfl ?_
      refine j_get jb f_X11_11 dX11_take_55 0 rfl rfl ?_
      refine j_iload_n jb dX11_take_58 0 rfl ?_
      refine j_aaldG (b := q1) jb dX11_take_59 2 rfl (by decide) (by decide) rfl ?_
      refine j_iconst jb dX11_take_60 ?_
      refine j_aload_n jb dX11_take_61 2 rfl ?_
      refine j_get jb f_X11_14 dX11_take_62 0 rfl rfl ?_
      refine j_iload_n jb dX11_take_65 0 rfl ?_
      refine j_iald jb dX11_take_66 1 rfl (by omega) (by decide) ?_
      refine j_copy (ws' := [(m0, oX11 sa ct sb ow s0 pk pd rd op sp), (ct, aI x.g 2 (zup (zup cn 0 on) (0 + 1) 0)), (sa, aG x.g 2 (rf2 q0 q1)), (q0, aI x.g 400 (zcpy e0 f0 0 0 ((zup cn 0 on) 0))), (q1, aI x.g 400 (zcpy e1 f1 0 0 ((zup (zup cn 0 on) (0 + 1) 0) (0 + 1)))), (op, oX4 or ok on 1 otn osb obh), (or, aG x.g 2 (rf2 oa ob)), (oa, aI x.g 400 e0), (ob, aI x.g 400 e1)]) jb l_X11_195 ac_native ac_static ac_init 8 4 rfl rfl (by first | (rw [zup_s]; omega) | omega) ⟨by decide, Nat.le_of_ble_eq_true rfl⟩ dX11_take_67 rfl ?_
      refine j_iinc (lv' := [(2, .int (iI ((0 + 1) + 1))), (1, .int (iI on)), (0, .ref m0)]) jb dX11_take_70 0 rfl (by decide) rfl ?_
      refine j_goto (tgt := 17) jb dX11_take_73 (by decide) ?_
      refine j_iload_n jb dX11_take_17 0 rfl ?_
      refine j_iconst jb dX11_take_18 ?_
      refine j_icmp_ge (tgt := 76) jb dX11_take_19 (by decide) (by decide) (by decide) (fun _ => ?_) (fun h => absurd h (by decide))
      refine j_aload_n jb dX11_take_76 2 rfl ?_
      refine j_aload_n jb dX11_take_77 2 rfl ?_
      refine j_get jb f_X11_64 dX11_take_78 0 rfl rfl ?_
      refine j_get jb f_X11_178 dX11_take_81 5 rfl rfl ?_
      refine j_put (ws' := [(m0, oX11 sa ct osb ow s0 pk pd rd op sp), (ct, aI x.g 2 (zup (zup cn 0 on) (0 + 1) 0)), (sa, aG x.g 2 (rf2 q0 q1)), (q0, aI x.g 400 (zcpy e0 f0 0 0 ((zup cn 0 on) 0))), (q1, aI x.g 400 (zcpy e1 f1 0 0 ((zup (zup cn 0 on) (0 + 1) 0) (0 + 1)))), (op, oX4 or ok on 1 otn osb obh), (or, aG x.g 2 (rf2 oa ob)), (oa, aI x.g 400 e0), (ob, aI x.g 400 e1)]) jb f_X11_18 w_X11_2 rfl dX11_take_84 0 rfl rfl rfl (Nat.le_of_ble_eq_true rfl) rfl ?_
      refine j_iload_n jb dX11_take_87 1 rfl ?_
      refine j_norm (lv' := []) (st' := [.int (iI on)]) (ws' := [(m0, oX11 sa ct osb ow s0 pk pd rd op sp), (ct, aI x.g 2 (zup (zup cn 0 on) (0 + 1) 0)), (sa, aG x.g 2 (rf2 q0 q1)), (q0, aI x.g 400 (zcpy e0 f0 0 0 ((zup cn 0 on) 0))), (q1, aI x.g 400 (zcpy e1 f1 0 0 ((zup (zup cn 0 on) (0 + 1) 0) (0 + 1)))), (op, oX4 or ok on 1 otn osb obh), (or, aG x.g 2 (rf2 oa ob)), (oa, aI x.g 400 e0), (ob, aI x.g 400 e1)]) [] [0, 1, 2, 3, 4, 5, 6, 7, 8] rfl rfl (by decide) rfl ?_
      exact j_iret jb jr dX11_take_88 ⟨_, _, _, _, _, rfl, rfl, ⟨fun q => absurd q c_9, fun _ => ⟨rfl, rfl, rfl, rfl, fun j h1 h2 => zcpy_0 h1 (by rw [zup_s]; exact h2), (by first | exact fun q => absurd q (by decide) | exact fun _ j h1 h2 => zcpy_0 h1 (by rw [zup_s]; exact h2))⟩⟩⟩
    · skip
      subst e9
      refine j_iconst jb dX11_take_15 ?_
      refine j_istore_n (lv' := [(2, .int (iI 0)), (1, .int (iI on)), (0, .ref m0)]) jb dX11_take_16 rfl (by decide) rfl ?_
      refine j_iload_n jb dX11_take_17 0 rfl ?_
      refine j_iconst jb dX11_take_18 ?_
      refine j_icmp_ge (tgt := 76) jb dX11_take_19 (by decide) (by decide) (by decide) (fun h => absurd h (by decide)) (fun _ => ?_)
      refine j_aload_n jb dX11_take_22 2 rfl ?_
      refine j_get jb f_X11_14 dX11_take_23 0 rfl rfl ?_
      refine j_iload_n jb dX11_take_26 0 rfl ?_
      refine j_iload_n jb dX11_take_27 0 rfl ?_
      refine j_aload_n jb dX11_take_28 2 rfl ?_
      refine j_get jb f_X11_64 dX11_take_29 0 rfl rfl ?_
      refine j_get jb f_X11_176 dX11_take_32 5 rfl rfl ?_
      refine j_icmp_ge (tgt := 42) jb dX11_take_35 (by decide) (by decide) (by decide) (fun h => absurd h (by decide)) (fun _ => ?_)
      refine j_iload_n jb dX11_take_38 1 rfl ?_
      refine j_goto (tgt := 43) jb dX11_take_39 (by decide) ?_
      refine j_iast (ws' := [(m0, oX11 sa ct sb ow s0 pk pd rd op sp), (ct, aI x.g 2 (zup cn 0 on)), (sa, aG x.g 2 (rf2 q0 q1)), (q0, aI x.g 400 f0), (q1, aI x.g 400 f1), (op, oX4 or ok on 2 otn osb obh), (or, aG x.g 2 (rf2 oa ob)), (oa, aI x.g 400 e0), (ob, aI x.g 400 e1)]) jb dX11_take_43 1 rfl (by omega) (by decide) rfl ?_
      refine j_aload_n jb dX11_take_44 2 rfl ?_
      refine j_get jb f_X11_64 dX11_take_45 0 rfl rfl ?_
      refine j_get jb f_X11_192 dX11_take_48 5 rfl rfl ?_
      refine j_iload_n jb dX11_take_51 0 rfl ?_
      refine j_aaldG (b := oa) jb dX11_take_52 6 rfl (by decide) (by decide) rfl ?_
      refine j_iconst jb dX11_take_53 ?_
      refine j_aload_n jb dX11_take_54 2 rfl ?_
      refine j_get jb f_X11_11 dX11_take_55 0 rfl rfl ?_
      refine j_iload_n jb dX11_take_58 0 rfl ?_
      refine j_aaldG (b := q0) jb dX11_take_59 2 rfl (by decide) (by decide) rfl ?_
      refine j_iconst jb dX11_take_60 ?_
      refine j_aload_n jb dX11_take_61 2 rfl ?_
      refine j_get jb f_X11_14 dX11_take_62 0 rfl rfl ?_
      refine j_iload_n jb dX11_take_65 0 rfl ?_
      refine j_iald jb dX11_take_66 1 rfl (by omega) (by decide) ?_
      refine j_copy (ws' := [(m0, oX11 sa ct sb ow s0 pk pd rd op sp), (ct, aI x.g 2 (zup cn 0 on)), (sa, aG x.g 2 (rf2 q0 q1)), (q0, aI x.g 400 (zcpy e0 f0 0 0 ((zup cn 0 on) 0))), (q1, aI x.g 400 f1), (op, oX4 or ok on 2 otn osb obh), (or, aG x.g 2 (rf2 oa ob)), (oa, aI x.g 400 e0), (ob, aI x.g 400 e1)]) jb l_X11_195 ac_native ac_static ac_init 7 3 rfl rfl (by first | (rw [zup_s]; omega) | omega) ⟨by decide, Nat.le_of_ble_eq_true rfl⟩ dX11_take_67 rfl ?_
      refine j_iinc (lv' := [(2, .int (iI (0 + 1))), (1, .int (iI on)), (0, .ref m0)]) jb dX11_take_70 0 rfl (by decide) rfl ?_
      refine j_goto (tgt := 17) jb dX11_take_73 (by decide) ?_
      refine j_iload_n jb dX11_take_17 0 rfl ?_
      refine j_iconst jb dX11_take_18 ?_
      refine j_icmp_ge (tgt := 76) jb dX11_take_19 (by decide) (by decide) (by decide) (fun h => absurd h (by decide)) (fun _ => ?_)
      refine j_aload_n jb dX11_take_22 2 rfl ?_
      refine j_get jb f_X11_14 dX11_take_23 0 rfl rfl ?_
      refine j_iload_n jb dX11_take_26 0 rfl ?_
      refine j_iload_n jb dX11_take_27 0 rfl ?_
      refine j_aload_n jb dX11_take_28 2 rfl ?_
      refine j_get jb f_X11_64 dX11_take_29 0 rfl rfl ?_
      refine j_get jb f_X11_176 dX11_take_32 5 rfl rfl ?_
      refine j_icmp_ge (tgt := 42) jb dX11_take_35 (by decide) (by decide) (by decide) (fun h => absurd h (by decide)) (fun _ => ?_)
      refine j_iload_n jb dX11_take_38 1 rfl ?_
      refine j_goto (tgt := 43) jb dX11_take_39 (by decide) ?_
      refine j_iast (ws' := [(m0, oX11 sa ct sb ow s0 pk pd rd op sp), (ct, aI x.g 2 (zup (zup cn 0 on) (0 + 1) on)), (sa, aG x.g 2 (rf2 q0 q1)), (q0, aI x.g 400 (zcpy e0 f0 0 0 ((zup cn 0 on) 0))), (q1, aI x.g 400 f1), (op, oX4 or ok on 2 otn osb obh), (or, aG x.g 2 (rf2 oa ob)), (oa, aI x.g 400 e0), (ob, aI x.g 400 e1)]) jb dX11_take_43 1 rfl (by omega) (by decide) rfl ?_
      refine j_aload_n jb dX11_take_44 2 rfl ?_
      refine j_get jb f_X11_64 dX11_take_45 0 rfl rfl ?_
      refine j_get jb f_X11_192 dX11_take_48 5 rfl rfl ?_
      refine j_iload_n jb dX11_take_51 0 rfl ?_
      refine j_aaldG (b := ob) jb dX11_take_52 6 rfl (by decide) (by decide) rfl ?_
      refine j_iconst jb dX11_take_53 ?_
      refine j_aload_n jb dX11_take_54 2 rfl ?_
      refine j_get jb f_X11_11 dX11_take_55 0 rfl rfl ?_
      refine j_iload_n jb dX11_take_58 0 rfl ?_
      refine j_aaldG (b := q1) jb dX11_take_59 2 rfl (by decide) (by decide) rfl ?_
      refine j_iconst jb dX11_take_60 ?_
      refine j_aload_n jb dX11_take_61 2 rfl ?_
      refine j_get jb f_X11_14 dX11_take_62 0 rfl rfl ?_
      refine j_iload_n jb dX11_take_65 0 rfl ?_
      refine j_iald jb dX11_take_66 1 rfl (by omega) (by decide) ?_
      refine j_copy (ws' := [(m0, oX11 sa ct sb ow s0 pk pd rd op sp), (ct, aI x.g 2 (zup (zup cn 0 on) (0 + 1) on)), (sa, aG x.g 2 (rf2 q0 q1)), (q0, aI x.g 400 (zcpy e0 f0 0 0 ((zup cn 0 on) 0))), (q1, aI x.g 400 (zcpy e1 f1 0 0 ((zup (zup cn 0 on) (0 + 1) on) (0 + 1)))), (op, oX4 or ok on 2 otn osb obh), (or, aG x.g 2 (rf2 oa ob)), (oa, aI x.g 400 e0), (ob, aI x.g 400 e1)]) jb l_X11_195 ac_native ac_static ac_init 8 4 rfl rfl (by first | (rw [zup_s]; omega) | omega) ⟨by decide, Nat.le_of_ble_eq_true rfl⟩ dX11_take_67 rfl ?_
      refine j_iinc (lv' := [(2, .int (iI ((0 + 1) + 1))), (1, .int (iI on)), (0, .ref m0)]) jb dX11_take_70 0 rfl (by decide) rfl ?_
      refine j_goto (tgt := 17) jb dX11_take_73 (by decide) ?_
      refine j_iload_n jb dX11_take_17 0 rfl ?_
      refine j_iconst jb dX11_take_18 ?_
      refine j_icmp_ge (tgt := 76) jb dX11_take_19 (by decide) (by decide) (by decide) (fun _ => ?_) (fun h => absurd h (by decide))
      refine j_aload_n jb dX11_take_76 2 rfl ?_
      refine j_aload_n jb dX11_take_77 2 rfl ?_
      refine j_get jb f_X11_64 dX11_take_78 0 rfl rfl ?_
      refine j_get jb f_X11_178 dX11_take_81 5 rfl rfl ?_
      refine j_put (ws' := [(m0, oX11 sa ct osb ow s0 pk pd rd op sp), (ct, aI x.g 2 (zup (zup cn 0 on) (0 + 1) on)), (sa, aG x.g 2 (rf2 q0 q1)), (q0, aI x.g 400 (zcpy e0 f0 0 0 ((zup cn 0 on) 0))), (q1, aI x.g 400 (zcpy e1 f1 0 0 ((zup (zup cn 0 on) (0 + 1) on) (0 + 1)))), (op, oX4 or ok on 2 otn osb obh), (or, aG x.g 2 (rf2 oa ob)), (oa, aI x.g 400 e0), (ob, aI x.g 400 e1)]) jb f_X11_18 w_X11_2 rfl dX11_take_84 0 rfl rfl rfl (Nat.le_of_ble_eq_true rfl) rfl ?_
      refine j_iload_n jb dX11_take_87 1 rfl ?_
      refine j_norm (lv' := []) (st' := [.int (iI on)]) (ws' := [(m0, oX11 sa ct osb ow s0 pk pd rd op sp), (ct, aI x.g 2 (zup (zup cn 0 on) (0 + 1) on)), (sa, aG x.g 2 (rf2 q0 q1)), (q0, aI x.g 400 (zcpy e0 f0 0 0 ((zup cn 0 on) 0))), (q1, aI x.g 400 (zcpy e1 f1 0 0 ((zup (zup cn 0 on) (0 + 1) on) (0 + 1)))), (op, oX4 or ok on 2 otn osb obh), (or, aG x.g 2 (rf2 oa ob)), (oa, aI x.g 400 e0), (ob, aI x.g 400 e1)]) [] [0, 1, 2, 3, 4, 5, 6, 7, 8] rfl rfl (by decide) rfl ?_
      exact j_iret jb jr dX11_take_88 ⟨_, _, _, _, _, rfl, rfl, ⟨fun q => absurd q c_9, fun _ => ⟨rfl, rfl, rfl, rfl, fun j h1 h2 => zcpy_0 h1 (by rw [zup_s]; exact h2), (by first | exact fun q => absurd q (by decide) | exact fun _ j h1 h2 => zcpy_0 h1 (by rw [zup_s]; exact h2))⟩⟩⟩
  · skip
    refine j_bipush jb dX11_take_12 (by decide) ?_
    refine j_norm (lv' := []) (st' := [.int (iI (-3))]) (ws' := [(m0, oX11 sa ct sb ow s0 pk pd rd op sp), (ct, aI x.g 2 cn), (sa, aG x.g 2 (rf2 q0 q1)), (q0, aI x.g 400 f0), (q1, aI x.g 400 f1), (op, oX4 or ok on och otn osb obh), (or, aG x.g 2 (rf2 oa ob)), (oa, aI x.g 400 e0), (ob, aI x.g 400 e1)]) [] [0, 1, 2, 3, 4, 5, 6, 7, 8] rfl rfl (by decide) rfl ?_
    exact j_iret jb jr dX11_take_14 ⟨_, _, _, _, _, rfl, rfl, ⟨fun _ => ⟨rfl, rfl, rfl, rfl, rfl⟩, fun q => absurd c_9 q⟩⟩

set_option maxHeartbeats 4000000 in
set_option maxRecDepth 100000 in
theorem C_X11_open (l : Launch) (g : GG) (m0 sa ct ow s0 pk pd rd op sp : Nat) (h1 w1 x1 xc1 sr sk pa pb : Nat) (sb len fa pos rn rq ro rs sn sch stn ssb sbh : Int) (B rc skk e0 e1 : Int → Int) (i : Int) (hl : 0 ≤ len ∧ len ≤ 2400) (hi : inR i) (hB : isBytes B) (hrc : cfOk rc) : Ctr l g yX11_open cX11_open 4 (some .int) 7 220 0 0 [.ref m0, .int (iI i)] [(m0, oX11 sa ct sb ow s0 pk pd rd op sp), (s0, oX0 h1 len fa pos), (h1, aI g 2400 B), (rd, oX3 s0 w1), (w1, oX9 s0 x1 rn rq), (x1, oX1 xc1 ro rs), (xc1, aI g 4 rc), (sp, oX4 sr sk sn sch stn ssb sbh), (sr, aG g 2 (rf2 pa pb)), (sk, aI g 2 skk), (pa, aI g 400 e0), (pb, aI g 400 e1)] (fun vv ww => ∃ (op2 sp2 : Nat) (r fa2 pos2 rn2 rq2 ro2 rs2 n2 ch2 tn2 sb2 bh2 : Int) (rc2 k2 d0 d1 : Int → Int), vv = some (.int (iI r)) ∧ ww = [(m0, oX11 sa ct sb ow s0 pk pd rd op2 sp2), (s0, oX0 h1 len fa2 pos2), (h1, aI g 2400 B), (rd, oX3 s0 w1), (w1, oX9 s0 x1 rn2 rq2), (x1, oX1 xc1 ro2 rs2), (xc1, aI g 4 rc2), (sp, oX4 sr sk n2 ch2 tn2 sb2 bh2), (sr, aG g 2 (rf2 pa pb)), (sk, aI g 2 k2), (pa, aI g 400 d0), (pb, aI g 400 d1)] ∧ cfOk rc2 ∧ ((¬ (0 ≤ i ∧ i < len) ∧ r = -2 ∧ op2 = op ∧ sp2 = sp) ∨ ((0 ≤ i ∧ i < len) ∧ ¬ (frR B len i).1 = 0 ∧ r = -10 - (frR B len i).1 ∧ op2 = op ∧ sp2 = sp) ∨ ((0 ≤ i ∧ i < len) ∧ isF (frR B len i) 0 n2 ch2 tn2 sb2 (k2 0) (k2 1) bh2 d0 d1 ∧ r = n2 ∧ op2 = sp ∧ sp2 = op ∧ (1 ≤ n2 ∧ n2 ≤ 400) ∧ (ch2 = 1 ∨ ch2 = 2) ∧ (0 ≤ tn2 ∧ tn2 ≤ 3) ∧ (1 ≤ sb2 ∧ sb2 ≤ 16) ∧ (ch2 = 1 → tn2 = 0) ∧ fitOn d0 sb2 n2 ∧ (ch2 = 2 → fitOn d1 sb2 n2)))) := by
  refine Ctr.of [(0, .ref m0), (1, .int (iI i))] (by decide) (Nat.le_of_ble_eq_true rfl) rfl ?_
  intro x hxl hxg jb jr hin
  subst hxl; subst hxg
  refine j_aload_n jb dX11_open_0 0 rfl ?_
  refine j_get jb f_X11_32 dX11_open_1 0 rfl rfl ?_
  refine j_iload_n jb dX11_open_4 1 rfl ?_
  refine j_callV (wr := [(m0, oX11 sa ct sb ow s0 pk pd rd op sp), (h1, aI x.g 2400 B), (rd, oX3 s0 w1), (w1, oX9 s0 x1 rn rq), (x1, oX1 xc1 ro rs), (xc1, aI x.g 4 rc), (sp, oX4 sr sk sn sch stn ssb sbh), (sr, aG x.g 2 (rf2 pa pb)), (sk, aI x.g 2 skk), (pa, aI x.g 400 e0), (pb, aI x.g 400 e1)]) jb k_X0_has i_X0_has s_X0_has l_X11_162 (C_X0_has x.l x.g s0 h1 len fa pos i (by omega) (by omega)) 1 2 rfl rfl rfl [1] [0, 2, 3, 4, 5, 6, 7, 8, 9, 10, 11] (by decide) rfl rfl (by decide) (by decide) rfl rfl (Nat.le_of_ble_eq_true rfl) (by decide) dX11_open_5 (fun v w hp => ?_)
  obtain ⟨rfl, rfl⟩ := hp
  refine j_norm (lv' := [(0, .ref m0), (1, .int (iI i))]) (st' := [.int (iI (b2i (0 ≤ i ∧ i < len)))]) (ws' := [(m0, oX11 sa ct sb ow s0 pk pd rd op sp), (s0, oX0 h1 len fa pos), (h1, aI x.g 2400 B), (rd, oX3 s0 w1), (w1, oX9 s0 x1 rn rq), (x1, oX1 xc1 ro rs), (xc1, aI x.g 4 rc), (sp, oX4 sr sk sn sch stn ssb sbh), (sr, aG x.g 2 (rf2 pa pb)), (sk, aI x.g 2 skk), (pa, aI x.g 400 e0), (pb, aI x.g 400 e1)]) [0, 1] [0, 11, 1, 2, 3, 4, 5, 6, 7, 8, 9, 10] rfl rfl (by decide) rfl ?_
  refine j_ifb_ne (tgt := 14) jb dX11_open_8 (by decide) (fun c_8 => ?_) (fun c_8 => ?_)
  · skip
    refine j_aload_n jb dX11_open_14 0 rfl ?_
    refine j_get jb f_X11_57 dX11_open_15 0 rfl rfl ?_
    refine j_iload_n jb dX11_open_18 1 rfl ?_
    refine j_aload_n jb dX11_open_19 0 rfl ?_
    refine j_get jb f_X11_68 dX11_open_20 0 rfl rfl ?_
    refine j_callV (wr := [(m0, oX11 sa ct sb ow s0 pk pd rd op sp)]) jb k_X3_readFrame i_X3_readFrame s_X3_readFrame l_X11_171 (C_X3_readFrame x.l x.g rd s0 w1 h1 x1 xc1 sp sr sk pa pb len fa pos sn sch stn ssb sbh i rn rq ro rs B skk e0 e1 rc hB (by omega) (by omega) hrc) 3 5 rfl rfl rfl [3, 1, 2, 4, 5, 6, 7, 8, 9, 10, 11] [0] (by decide) rfl rfl (by decide) (by decide) rfl rfl (Nat.le_of_ble_eq_true rfl) (by decide) dX11_open_23 (fun v w hp => ?_)
    obtain ⟨fa2, pos2, n2, ch2, tn2, sb2, bh2, rn2, rq2, ro2, rs2, k2, d0, d1, rc2, rfl, rfl, h23⟩ := hp
    refine j_norm (lv' := [(0, .ref m0), (1, .int (iI i))]) (st' := [.int (iI fa2)]) (ws' := [(m0, oX11 sa ct sb ow s0 pk pd rd op sp), (s0, oX0 h1 len fa2 pos2), (h1, aI x.g 2400 B), (rd, oX3 s0 w1), (w1, oX9 s0 x1 rn2 rq2), (x1, oX1 xc1 ro2 rs2), (xc1, aI x.g 4 rc2), (sp, oX4 sr sk n2 ch2 tn2 sb2 bh2), (sr, aG x.g 2 (rf2 pa pb)), (sk, aI x.g 2 k2), (pa, aI x.g 400 d0), (pb, aI x.g 400 d1)]) [0, 1] [0, 2, 3, 1, 4, 5, 6, 7, 8, 9, 10, 11] rfl rfl (by decide) rfl ?_
    refine j_istore_n (lv' := [(2, .int (iI fa2)), (0, .ref m0), (1, .int (iI i))]) jb dX11_open_26 rfl (by decide) rfl ?_
    refine j_iload_n jb dX11_open_27 0 rfl ?_
    refine j_if_eq (tgt := 36) jb dX11_open_28 (by decide) (by omega) (fun c_28 => ?_) (fun c_28 => ?_)
    · skip
      refine j_aload_n jb dX11_open_36 1 rfl ?_
      refine j_get jb f_X11_64 dX11_open_37 0 rfl rfl ?_
      refine j_astore_n (lv' := [(3, .ref op), (2, .int (iI fa2)), (0, .ref m0), (1, .int (iI i))]) jb dX11_open_40 rfl (by decide) rfl ?_
      refine j_aload_n jb dX11_open_41 2 rfl ?_
      refine j_aload_n jb dX11_open_42 2 rfl ?_
      refine j_get jb f_X11_68 dX11_open_43 0 rfl rfl ?_
      refine j_put (ws' := [(m0, oX11 sa ct sb ow s0 pk pd rd sp sp), (s0, oX0 h1 len fa2 pos2), (h1, aI x.g 2400 B), (rd, oX3 s0 w1), (w1, oX9 s0 x1 rn2 rq2), (x1, oX1 xc1 ro2 rs2), (xc1, aI x.g 4 rc2), (sp, oX4 sr sk n2 ch2 tn2 sb2 bh2), (sr, aG x.g 2 (rf2 pa pb)), (sk, aI x.g 2 k2), (pa, aI x.g 400 d0), (pb, aI x.g 400 d1)]) jb f_X11_64 w_X11_8 rfl dX11_open_46 0 rfl rfl rfl (Nat.le_of_ble_eq_true rfl) rfl ?_
      refine j_aload_n jb dX11_open_49 2 rfl ?_
      refine j_aload_n jb dX11_open_50 0 rfl ?_
      refine j_put (ws' := [(m0, oX11 sa ct sb ow s0 pk pd rd sp op), (s0, oX0 h1 len fa2 pos2), (h1, aI x.g 2400 B), (rd, oX3 s0 w1), (w1, oX9 s0 x1 rn2 rq2), (x1, oX1 xc1 ro2 rs2), (xc1, aI x.g 4 rc2), (sp, oX4 sr sk n2 ch2 tn2 sb2 bh2), (sr, aG x.g 2 (rf2 pa pb)), (sk, aI x.g 2 k2), (pa, aI x.g 400 d0), (pb, aI x.g 400 d1)]) jb f_X11_68 w_X11_9 rfl dX11_open_51 0 rfl rfl rfl (Nat.le_of_ble_eq_true rfl) rfl ?_
      refine j_aload_n jb dX11_open_54 2 rfl ?_
      refine j_get jb f_X11_64 dX11_open_55 0 rfl rfl ?_
      refine j_get jb f_X11_175 dX11_open_58 7 rfl rfl ?_
      refine j_norm (lv' := []) (st' := [.int (iI n2)]) (ws' := [(m0, oX11 sa ct sb ow s0 pk pd rd sp op), (s0, oX0 h1 len fa2 pos2), (h1, aI x.g 2400 B), (rd, oX3 s0 w1), (w1, oX9 s0 x1 rn2 rq2), (x1, oX1 xc1 ro2 rs2), (xc1, aI x.g 4 rc2), (sp, oX4 sr sk n2 ch2 tn2 sb2 bh2), (sr, aG x.g 2 (rf2 pa pb)), (sk, aI x.g 2 k2), (pa, aI x.g 400 d0), (pb, aI x.g 400 d1)]) [] [0, 1, 2, 3, 4, 5, 6, 7, 8, 9, 10, 11] rfl rfl (by decide) rfl ?_
      exact j_iret jb jr dX11_open_61 ⟨_, _, _, _, _, _, _, _, _, _, _, _, _, _, _, _, _, _, rfl, rfl, ⟨h23.2.2.1, Or.inr (Or.inr (by have z := h23.2.2.2 c_28; exact ⟨c_8, (by have y := h23.1; rw [c_28] at y; exact y), rfl, rfl, rfl, z.1, z.2.1, z.2.2.1, z.2.2.2.1, z.2.2.2.2.1, z.2.2.2.2.2.2⟩))⟩⟩
    · skip
      refine j_bipush jb dX11_open_31 (by decide) ?_
      refine j_iload_n jb dX11_open_33 0 rfl ?_
      refine j_isub jb dX11_open_34 ?_
      refine j_norm (lv' := []) (st' := [.int (iI ((-10) - fa2))]) (ws' := [(m0, oX11 sa ct sb ow s0 pk pd rd op sp), (s0, oX0 h1 len fa2 pos2), (h1, aI x.g 2400 B), (rd, oX3 s0 w1), (w1, oX9 s0 x1 rn2 rq2), (x1, oX1 xc1 ro2 rs2), (xc1, aI x.g 4 rc2), (sp, oX4 sr sk n2 ch2 tn2 sb2 bh2), (sr, aG x.g 2 (rf2 pa pb)), (sk, aI x.g 2 k2), (pa, aI x.g 400 d0), (pb, aI x.g 400 d1)]) [] [0, 1, 2, 3, 4, 5, 6, 7, 8, 9, 10, 11] rfl rfl (by decide) rfl ?_
      exact j_iret jb jr dX11_open_35 ⟨_, _, _, _, _, _, _, _, _, _, _, _, _, _, _, _, _, _, rfl, rfl, ⟨h23.2.2.1, Or.inr (Or.inl ⟨c_8, by rw [← h23.1.1]; exact c_28, by rw [← h23.1.1], rfl, rfl⟩)⟩⟩
  · skip
    refine j_bipush jb dX11_open_11 (by decide) ?_
    refine j_norm (lv' := []) (st' := [.int (iI (-2))]) (ws' := [(m0, oX11 sa ct sb ow s0 pk pd rd op sp), (s0, oX0 h1 len fa pos), (h1, aI x.g 2400 B), (rd, oX3 s0 w1), (w1, oX9 s0 x1 rn rq), (x1, oX1 xc1 ro rs), (xc1, aI x.g 4 rc), (sp, oX4 sr sk sn sch stn ssb sbh), (sr, aG x.g 2 (rf2 pa pb)), (sk, aI x.g 2 skk), (pa, aI x.g 400 e0), (pb, aI x.g 400 e1)]) [] [0, 1, 2, 3, 4, 5, 6, 7, 8, 9, 10, 11] rfl rfl (by decide) rfl ?_
    exact j_iret jb jr dX11_open_13 ⟨_, _, _, _, _, _, _, _, _, _, _, _, _, _, _, _, _, _, rfl, rfl, ⟨hrc, Or.inl ⟨c_8, rfl, rfl, rfl⟩⟩⟩

set_option maxHeartbeats 4000000 in
set_option maxRecDepth 100000 in
theorem C_X11_frames (l : Launch) (g : GG) (m0 sa ct ow s0 pk pd rd op sp : Nat) (h1 w1 x1 xc1 sr sk pa pb : Nat) (sb len fa pos rn rq ro rs sn sch stn ssb sbh : Int) (B rc skk e0 e1 : Int → Int) (hl : 0 ≤ len ∧ len ≤ 2400) (hB : isBytes B) (hrc : cfOk rc) : Ctr l g yX11_frames cX11_frames 3 (some .int) 7 220 0 0 [.ref m0] [(m0, oX11 sa ct sb ow s0 pk pd rd op sp), (s0, oX0 h1 len fa pos), (h1, aI g 2400 B), (rd, oX3 s0 w1), (w1, oX9 s0 x1 rn rq), (x1, oX1 xc1 ro rs), (xc1, aI g 4 rc), (sp, oX4 sr sk sn sch stn ssb sbh), (sr, aG g 2 (rf2 pa pb)), (sk, aI g 2 skk), (pa, aI g 400 e0), (pb, aI g 400 e1)] (fun vv ww => ∃ (r fa2 pos2 rn2 rq2 ro2 rs2 n2 ch2 tn2 sb2 bh2 : Int) (rc2 k2 d0 d1 : Int → Int), vv = some (.int (iI r)) ∧ ww = [(m0, oX11 sa ct sb ow s0 pk pd rd op sp), (s0, oX0 h1 len fa2 pos2), (h1, aI g 2400 B), (rd, oX3 s0 w1), (w1, oX9 s0 x1 rn2 rq2), (x1, oX1 xc1 ro2 rs2), (xc1, aI g 4 rc2), (sp, oX4 sr sk n2 ch2 tn2 sb2 bh2), (sr, aG g 2 (rf2 pa pb)), (sk, aI g 2 k2), (pa, aI g 400 d0), (pb, aI g 400 d1)] ∧ cfOk rc2 ∧ r = frN B len 2400 0 0) := by
  refine Ctr.of [(0, .ref m0)] (by decide) (Nat.le_of_ble_eq_true rfl) rfl ?_
  intro x hxl hxg jb jr hin
  subst hxl; subst hxg
  obtain ⟨R0, hR0⟩ : ∃ R : Int, R = frN B len 2400 0 0 := ⟨_, rfl⟩
  refine j_iconst jb dX11_frames_0 ?_
  refine j_istore_n (lv' := [(1, .int (iI 0)), (0, .ref m0)]) jb dX11_frames_1 rfl (by decide) rfl ?_
  refine j_iconst jb dX11_frames_2 ?_
  refine j_istore_n (lv' := [(2, .int (iI 0)), (1, .int (iI 0)), (0, .ref m0)]) jb dX11_frames_3 rfl (by decide) rfl ?_
  have L4 : ∀ (fu : Nat) (pl gd faq poq rnq rqq roq rsq nq chq tnq sbq bhq : Int) (rcq kq dq0 dq1 : Int → Int), (0 ≤ pl ∧ pl ≤ len ∧ (0 ≤ gd ∧ gd ≤ 2400) ∧ cfOk rcq ∧ R0 = frN B len (2400 - gd).toNat pl gd) → (2400 - gd).toNat < fu → JW x 0 0 4 [(0, .ref m0), (1, .int (iI pl)), (2, .int (iI gd))] [] [(m0, oX11 sa ct sb ow s0 pk pd rd op sp), (s0, oX0 h1 len faq poq), (h1, aI x.g 2400 B), (rd, oX3 s0 w1), (w1, oX9 s0 x1 rnq rqq), (x1, oX1 xc1 roq rsq), (xc1, aI x.g 4 rcq), (sp, oX4 sr sk nq chq tnq sbq bhq), (sr, aG x.g 2 (rf2 pa pb)), (sk, aI x.g 2 kq), (pa, aI x.g 400 dq0), (pb, aI x.g 400 dq1)] := by
    intro fu
    induction fu with
    | zero => intro pl gd faq poq rnq rqq roq rsq nq chq tnq sbq bhq rcq kq dq0 dq1 _ hm; exact absurd hm (by omega)
    | succ fu ih =>
      intro pl gd faq poq rnq rqq roq rsq nq chq tnq sbq bhq rcq kq dq0 dq1 ⟨hi1, hi2, hi3, hi4, hi5⟩ hm4
      have ih4 := ih
      clear ih
      refine j_iload_n jb dX11_frames_4 2 rfl ?_
      refine j_sipush jb dX11_frames_5 (by decide) ?_
      refine j_icmp_ge (tgt := 56) jb dX11_frames_8 (by decide) (by omega) (by omega) (fun c_8 => ?_) (fun c_8 => ?_)
      · skip
        refine j_iload_n jb dX11_frames_56 2 rfl ?_
        refine j_norm (lv' := []) (st' := [.int (iI gd)]) (ws' := [(m0, oX11 sa ct sb ow s0 pk pd rd op sp), (s0, oX0 h1 len faq poq), (h1, aI x.g 2400 B), (rd, oX3 s0 w1), (w1, oX9 s0 x1 rnq rqq), (x1, oX1 xc1 roq rsq), (xc1, aI x.g 4 rcq), (sp, oX4 sr sk nq chq tnq sbq bhq), (sr, aG x.g 2 (rf2 pa pb)), (sk, aI x.g 2 kq), (pa, aI x.g 400 dq0), (pb, aI x.g 400 dq1)]) [] [0, 1, 2, 3, 4, 5, 6, 7, 8, 9, 10, 11] rfl rfl (by decide) rfl ?_
        exact j_iret jb jr dX11_frames_57 ⟨_, _, _, _, _, _, _, _, _, _, _, _, _, _, _, _, rfl, rfl, ⟨hi4, by rw [← hR0]; exact (frN_end hi5 (by omega)).symm⟩⟩
      · skip
        refine j_iload_n jb dX11_frames_11 1 rfl ?_
        refine j_aload_n jb dX11_frames_12 0 rfl ?_
        refine j_get jb f_X11_32 dX11_frames_13 0 rfl rfl ?_
        refine j_get jb f_X11_90 dX11_frames_16 1 rfl rfl ?_
        refine j_icmp_ge (tgt := 56) jb dX11_frames_19 (by decide) (by omega) (by omega) (fun c_19 => ?_) (fun c_19 => ?_)
        · skip
          refine j_iload_n jb dX11_frames_56 2 rfl ?_
          refine j_norm (lv' := []) (st' := [.int (iI gd)]) (ws' := [(m0, oX11 sa ct sb ow s0 pk pd rd op sp), (s0, oX0 h1 len faq poq), (h1, aI x.g 2400 B), (rd, oX3 s0 w1), (w1, oX9 s0 x1 rnq rqq), (x1, oX1 xc1 roq rsq), (xc1, aI x.g 4 rcq), (sp, oX4 sr sk nq chq tnq sbq bhq), (sr, aG x.g 2 (rf2 pa pb)), (sk, aI x.g 2 kq), (pa, aI x.g 400 dq0), (pb, aI x.g 400 dq1)]) [] [0, 1, 2, 3, 4, 5, 6, 7, 8, 9, 10, 11] rfl rfl (by decide) rfl ?_
          exact j_iret jb jr dX11_frames_57 ⟨_, _, _, _, _, _, _, _, _, _, _, _, _, _, _, _, rfl, rfl, ⟨hi4, by rw [← hR0]; exact (frN_end hi5 (by omega)).symm⟩⟩
        · skip
          refine j_aload_n jb dX11_frames_22 0 rfl ?_
          refine j_get jb f_X11_57 dX11_frames_23 0 rfl rfl ?_
          refine j_iload_n jb dX11_frames_26 1 rfl ?_
          refine j_aload_n jb dX11_frames_27 0 rfl ?_
          refine j_get jb f_X11_68 dX11_frames_28 0 rfl rfl ?_
          refine j_callV (wr := [(m0, oX11 sa ct sb ow s0 pk pd rd op sp)]) jb k_X3_readFrame i_X3_readFrame s_X3_readFrame l_X11_171 (C_X3_readFrame x.l x.g rd s0 w1 h1 x1 xc1 sp sr sk pa pb len faq poq nq chq tnq sbq bhq pl rnq rqq roq rsq B kq dq0 dq1 rcq hB (by omega) (by omega) hi4) 3 5 rfl rfl rfl [3, 1, 2, 4, 5, 6, 7, 8, 9, 10, 11] [0] (by decide) rfl rfl (by decide) (by decide) rfl rfl (Nat.le_of_ble_eq_true rfl) (by decide) dX11_frames_31 (fun v w hp => ?_)
          obtain ⟨fa2, pos2, n2, ch2, tn2, sb2, bh2, rn2, rq2, ro2, rs2, k2, d0, d1, rc2, rfl, rfl, h31⟩ := hp
          refine j_norm (lv' := [(0, .ref m0), (1, .int (iI pl)), (2, .int (iI gd))]) (st' := [.int (iI fa2)]) (ws' := [(m0, oX11 sa ct sb ow s0 pk pd rd op sp), (s0, oX0 h1 len fa2 pos2), (h1, aI x.g 2400 B), (rd, oX3 s0 w1), (w1, oX9 s0 x1 rn2 rq2), (x1, oX1 xc1 ro2 rs2), (xc1, aI x.g 4 rc2), (sp, oX4 sr sk n2 ch2 tn2 sb2 bh2), (sr, aG x.g 2 (rf2 pa pb)), (sk, aI x.g 2 k2), (pa, aI x.g 400 d0), (pb, aI x.g 400 d1)]) [0, 1, 2] [0, 2, 3, 1, 4, 5, 6, 7, 8, 9, 10, 11] rfl rfl (by decide) rfl ?_
          refine j_if_eq (tgt := 42) jb dX11_frames_34 (by decide) (by omega) (fun c_34 => ?_) (fun c_34 => ?_)
          · skip
            refine j_aload_n jb dX11_frames_42 0 rfl ?_
            refine j_get jb f_X11_68 dX11_frames_43 0 rfl rfl ?_
            refine j_get jb f_X11_179 dX11_frames_46 7 rfl rfl ?_
            refine j_istore_n (lv' := [(1, .int (iI bh2)), (0, .ref m0), (2, .int (iI gd))]) jb dX11_frames_49 rfl (by decide) rfl ?_
            refine j_iinc (lv' := [(2, .int (iI (gd + 1))), (1, .int (iI bh2)), (0, .ref m0)]) jb dX11_frames_50 2 rfl (by decide) rfl ?_
            refine j_goto (tgt := 4) jb dX11_frames_53 (by decide) ?_
            refine j_norm (lv' := [(0, .ref m0), (1, .int (iI bh2)), (2, .int (iI (gd + 1)))]) (st' := []) (ws' := [(m0, oX11 sa ct sb ow s0 pk pd rd op sp), (s0, oX0 h1 len fa2 pos2), (h1, aI x.g 2400 B), (rd, oX3 s0 w1), (w1, oX9 s0 x1 rn2 rq2), (x1, oX1 xc1 ro2 rs2), (xc1, aI x.g 4 rc2), (sp, oX4 sr sk n2 ch2 tn2 sb2 bh2), (sr, aG x.g 2 (rf2 pa pb)), (sk, aI x.g 2 k2), (pa, aI x.g 400 d0), (pb, aI x.g 400 d1)]) [2, 1, 0] [0, 1, 2, 3, 4, 5, 6, 7, 8, 9, 10, 11] rfl rfl (by decide) rfl ?_
            exact ih4 bh2 (gd + 1) fa2 pos2 rn2 rq2 ro2 rs2 n2 ch2 tn2 sb2 bh2 rc2 k2 d0 d1 (by have z := h31.2.2.2 c_34; exact ⟨by omega, by omega, by omega, h31.2.2.1, frN_next hi5 (by omega) (by omega) (by rw [← h31.1.1]; exact c_34) (h31.1.2 c_34).2.2.2.2.2.2.1⟩) (by omega)
          · skip
            refine j_bipush jb dX11_frames_37 (by decide) ?_
            refine j_iload_n jb dX11_frames_39 2 rfl ?_
            refine j_isub jb dX11_frames_40 ?_
            refine j_norm (lv' := []) (st' := [.int (iI ((-10) - gd))]) (ws' := [(m0, oX11 sa ct sb ow s0 pk pd rd op sp), (s0, oX0 h1 len fa2 pos2), (h1, aI x.g 2400 B), (rd, oX3 s0 w1), (w1, oX9 s0 x1 rn2 rq2), (x1, oX1 xc1 ro2 rs2), (xc1, aI x.g 4 rc2), (sp, oX4 sr sk n2 ch2 tn2 sb2 bh2), (sr, aG x.g 2 (rf2 pa pb)), (sk, aI x.g 2 k2), (pa, aI x.g 400 d0), (pb, aI x.g 400 d1)]) [] [0, 1, 2, 3, 4, 5, 6, 7, 8, 9, 10, 11] rfl rfl (by decide) rfl ?_
            exact j_iret jb jr dX11_frames_41 ⟨_, _, _, _, _, _, _, _, _, _, _, _, _, _, _, _, rfl, rfl, ⟨h31.2.2.1, by rw [← hR0]; exact (frN_bad hi5 (by omega) (by omega) (by rw [← h31.1.1]; exact c_34)).symm⟩⟩
  refine j_norm (lv' := [(0, .ref m0), (1, .int (iI 0)), (2, .int (iI 0))]) (st' := []) (ws' := [(m0, oX11 sa ct sb ow s0 pk pd rd op sp), (s0, oX0 h1 len fa pos), (h1, aI x.g 2400 B), (rd, oX3 s0 w1), (w1, oX9 s0 x1 rn rq), (x1, oX1 xc1 ro rs), (xc1, aI x.g 4 rc), (sp, oX4 sr sk sn sch stn ssb sbh), (sr, aG x.g 2 (rf2 pa pb)), (sk, aI x.g 2 skk), (pa, aI x.g 400 e0), (pb, aI x.g 400 e1)]) [2, 1, 0] [0, 1, 2, 3, 4, 5, 6, 7, 8, 9, 10, 11] rfl rfl (by decide) rfl ?_
  exact L4 _ 0 0 fa pos rn rq ro rs sn sch stn ssb sbh rc skk e0 e1 ⟨by decide, hl.1, by decide, hrc, hR0⟩ (Nat.lt_succ_self _)

