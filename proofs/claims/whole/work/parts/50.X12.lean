set_option maxHeartbeats 4000000 in
set_option maxRecDepth 100000 in
theorem C_X12_in (l : Launch) (g : GG) (z lo hi : Int) (h1 : inL z) (h2 : inL lo) (h3 : inL hi) : Ctr l g yX12_in cX12_in 6 (some .boolean) 0 0 0 0 [.long (lI z), .long (lI lo), .long (lI hi)] [] (fun vv ww => vv = some (.int (iI (b2i (lo ≤ z ∧ z ≤ hi)))) ∧ ww = []) := by
  refine Ctr.of [(0, .long (lI z)), (2, .long (lI lo)), (4, .long (lI hi))] (by decide) (Nat.le_of_ble_eq_true rfl) rfl ?_
  intro x hxl hxg jb jr hin
  subst hxl; subst hxg
  refine j_lload_n jb dX12_in_0 0 rfl ?_
  refine j_lload_n jb dX12_in_1 1 rfl ?_
  refine j_lcmp_lt (tgt := 17) jb dX12_in_2 dX12_in_3 (by decide) (by omega) (by omega) (fun c_2 => ?_) (fun c_2 => ?_)
  · skip
    refine j_iconst jb dX12_in_17 ?_
    refine j_norm (lv' := []) (st' := [.int (iI 0)]) (ws' := []) [] [] rfl rfl (by decide) rfl ?_
    exact j_zret jb jr dX12_in_18 rfl ⟨(vb0 (by omega)), rfl⟩
  · skip
    refine j_lload_n jb dX12_in_6 0 rfl ?_
    refine j_lload jb dX12_in_7 2 rfl ?_
    refine j_lcmp_gt (tgt := 17) jb dX12_in_9 dX12_in_10 (by decide) (by omega) (by omega) (fun c_9 => ?_) (fun c_9 => ?_)
    · skip
      refine j_iconst jb dX12_in_17 ?_
      refine j_norm (lv' := []) (st' := [.int (iI 0)]) (ws' := []) [] [] rfl rfl (by decide) rfl ?_
      exact j_zret jb jr dX12_in_18 rfl ⟨(vb0 (by omega)), rfl⟩
    · skip
      refine j_iconst jb dX12_in_13 ?_
      refine j_goto (tgt := 18) jb dX12_in_14 (by decide) ?_
      refine j_norm (lv' := []) (st' := [.int (iI 1)]) (ws' := []) [] [] rfl rfl (by decide) rfl ?_
      exact j_zret jb jr dX12_in_18 rfl ⟨(vb1 (by omega)), rfl⟩

set_option maxHeartbeats 4000000 in
set_option maxRecDepth 100000 in
theorem C_X12_fits (l : Launch) (g : GG) (z b : Int) (h1 : inL z) (h2 : 1 ≤ b ∧ b ≤ 31) : Ctr l g yX12_fits cX12_fits 3 (some .boolean) 1 30 0 0 [.long (lI z), .int (iI b)] [] (fun vv ww => vv = some (.int (iI (b2i (fit z b)))) ∧ ww = []) := by
  refine Ctr.of [(0, .long (lI z)), (2, .int (iI b))] (by decide) (Nat.le_of_ble_eq_true rfl) rfl ?_
  intro x hxl hxg jb jr hin
  subst hxl; subst hxg
  have q1 := pw_30 (k := b - 1) (by omega)
  have q2 := pw_pos (b - 1)
  refine j_lload_n jb dX12_fits_0 0 rfl ?_
  refine j_lconst (z := 1) jb dX12_fits_1 rfl ?_
  refine j_iload_n jb dX12_fits_2 1 rfl ?_
  refine j_iconst jb dX12_fits_3 ?_
  refine j_isub jb dX12_fits_4 ?_
  refine j_lshl jb dX12_fits_5 (by omega) ?_
  refine j_lneg jb dX12_fits_6 ?_
  refine j_lconst (z := 1) jb dX12_fits_7 rfl ?_
  refine j_iload_n jb dX12_fits_8 1 rfl ?_
  refine j_iconst jb dX12_fits_9 ?_
  refine j_isub jb dX12_fits_10 ?_
  refine j_lshl jb dX12_fits_11 (by omega) ?_
  refine j_lconst (z := 1) jb dX12_fits_12 rfl ?_
  refine j_lsub jb dX12_fits_13 ?_
  refine j_callS (wr := []) jb k_X12_in t_X12_in l_X12_72 (C_X12_in x.l x.g z (-(1 * 2 ^ (b - 1).toNat)) ((1 * 2 ^ (b - 1).toNat) - 1) (by omega) (by omega) (by omega)) [] [] (by decide) rfl rfl (by decide) (by decide) rfl rfl (Nat.le_of_ble_eq_true rfl) (by decide) dX12_fits_14 (fun v w hp => ?_)
  obtain ⟨rfl, rfl⟩ := hp
  refine j_norm (lv' := [(0, .long (lI z)), (2, .int (iI b))]) (st' := [.int (iI (b2i ((-(1 * 2 ^ (b - 1).toNat)) ≤ z ∧ z ≤ ((1 * 2 ^ (b - 1).toNat) - 1))))]) (ws' := []) [0, 1] [] rfl rfl (by decide) rfl ?_
  refine j_topi (b2i (fit z b)) (b2i_iff (by rw [Int.one_mul]; constructor <;> intro q <;> exact ⟨q.1, by omega⟩)) ?_
  refine j_norm (lv' := []) (st' := [.int (iI (b2i (fit z b)))]) (ws' := []) [] [] rfl rfl (by decide) rfl ?_
  exact j_zret jb jr dX12_fits_17 (nar_b _) ⟨rfl, rfl⟩

set_option maxHeartbeats 4000000 in
set_option maxRecDepth 100000 in
theorem C_X12_thrown (l : Launch) (g : GG) (n0 my sm st yb pkr rt rk rx si gt va re ua mk rki rea rby : Nat) (th dp sz mo ms hpk hsh vn wd wa pkk pxx bp bi pl cd rn rch rtn rdp rsh : Int)  : Ctr l g yX12_thrown cX12_thrown 1 (some .int) 0 0 0 0 [.ref n0] [(n0, oX12 th dp my sm st sz mo ms yb hpk pkr rt rk rx hsh si gt va vn wd wa re ua pkk pxx bp mk bi pl cd rn rch rtn rdp rki rea rby rsh)] (fun vv ww => vv = some (.int (iI th)) ∧ ww = [(n0, oX12 th dp my sm st sz mo ms yb hpk pkr rt rk rx hsh si gt va vn wd wa re ua pkk pxx bp mk bi pl cd rn rch rtn rdp rki rea rby rsh)]) := by
  refine Ctr.of [(0, .ref n0)] (by decide) (Nat.le_of_ble_eq_true rfl) rfl ?_
  intro x hxl hxg jb jr hin
  subst hxl; subst hxg
  refine j_aload_n jb dX12_thrown_0 0 rfl ?_
  refine j_get jb f_X12_1 dX12_thrown_1 0 rfl rfl ?_
  refine j_norm (lv' := []) (st' := [.int (iI th)]) (ws' := [(n0, oX12 th dp my sm st sz mo ms yb hpk pkr rt rk rx hsh si gt va vn wd wa re ua pkk pxx bp mk bi pl cd rn rch rtn rdp rki rea rby rsh)]) [] [0] rfl rfl (by decide) rfl ?_
  exact j_iret jb jr dX12_thrown_4 ⟨rfl, rfl⟩

set_option maxHeartbeats 4000000 in
set_option maxRecDepth 100000 in
theorem C_X12_depth (l : Launch) (g : GG) (n0 my sm st yb pkr rt rk rx si gt va re ua mk rki rea rby : Nat) (th dp sz mo ms hpk hsh vn wd wa pkk pxx bp bi pl cd rn rch rtn rdp rsh : Int) (b : Int) (cn : Int → Int) (hcn : (0 ≤ cn 0 ∧ cn 0 ≤ 400) ∧ (0 ≤ cn 1 ∧ cn 1 ≤ 400)) (hb : inR b) : Ctr l g yX12_depth cX12_depth 3 (some .int) 1 30 0 0 [.ref n0, .int (iI b)] [(n0, oX12 th dp my sm st sz mo ms yb hpk pkr rt rk rx hsh si gt va vn wd wa re ua pkk pxx bp mk bi pl cd rn rch rtn rdp rki rea rby rsh), (my, aI g 2 cn)] (fun vv ww => ∃ (r dp2 : Int), vv = some (.int (iI r)) ∧ ww = [(n0, oX12 0 dp2 my sm st sz mo ms yb hpk pkr rt rk rx hsh si gt va vn wd wa re ua pkk pxx bp mk bi pl cd rn rch rtn rdp rki rea rby rsh), (my, aI g 2 cn)] ∧ (¬ (1 ≤ b ∧ b ≤ 16) → r = -2 ∧ dp2 = dp) ∧ ((1 ≤ b ∧ b ≤ 16) ∧ (¬ cn 0 = 0 ∨ ¬ cn 1 = 0) → r = -3 ∧ dp2 = dp) ∧ ((1 ≤ b ∧ b ≤ 16) ∧ cn 0 = 0 ∧ cn 1 = 0 → r = dp ∧ dp2 = b)) := by
  refine Ctr.of [(0, .ref n0), (1, .int (iI b))] (by decide) (Nat.le_of_ble_eq_true rfl) rfl ?_
  intro x hxl hxg jb jr hin
  subst hxl; subst hxg
  refine j_aload_n jb dX12_depth_0 0 rfl ?_
  refine j_iconst jb dX12_depth_1 ?_
  refine j_put (ws' := [(n0, oX12 0 dp my sm st sz mo ms yb hpk pkr rt rk rx hsh si gt va vn wd wa re ua pkk pxx bp mk bi pl cd rn rch rtn rdp rki rea rby rsh), (my, aI x.g 2 cn)]) jb f_X12_1 w_X12_0 rfl dX12_depth_2 0 rfl rfl rfl (Nat.le_of_ble_eq_true rfl) rfl ?_
  refine j_iload_n jb dX12_depth_5 1 rfl ?_
  refine j_i2l jb dX12_depth_6 (by omega) ?_
  refine j_lconst (z := 1) jb dX12_depth_7 rfl ?_
  refine j_ldc2 (z := 16) jb q_X12_76 rfl dX12_depth_8 ?_
  refine j_callS (wr := [(n0, oX12 0 dp my sm st sz mo ms yb hpk pkr rt rk rx hsh si gt va vn wd wa re ua pkk pxx bp mk bi pl cd rn rch rtn rdp rki rea rby rsh), (my, aI x.g 2 cn)]) jb k_X12_in t_X12_in l_X12_72 (C_X12_in x.l x.g b 1 16 (by omega) (by omega) (by omega)) [] [0, 1] (by decide) rfl rfl (by decide) (by decide) rfl rfl (Nat.le_of_ble_eq_true rfl) (by decide) dX12_depth_11 (fun v w hp => ?_)
  obtain ⟨rfl, rfl⟩ := hp
  refine j_norm (lv' := [(0, .ref n0), (1, .int (iI b))]) (st' := [.int (iI (b2i (1 ≤ b ∧ b ≤ 16)))]) (ws' := [(n0, oX12 0 dp my sm st sz mo ms yb hpk pkr rt rk rx hsh si gt va vn wd wa re ua pkk pxx bp mk bi pl cd rn rch rtn rdp rki rea rby rsh), (my, aI x.g 2 cn)]) [0, 1] [0, 1] rfl rfl (by decide) rfl ?_
  refine j_ifb_ne (tgt := 20) jb dX12_depth_14 (by decide) (fun c_14 => ?_) (fun c_14 => ?_)
  · skip
    refine j_aload_n jb dX12_depth_20 0 rfl ?_
    refine j_get jb f_X12_16 dX12_depth_21 0 rfl rfl ?_
    refine j_iconst jb dX12_depth_24 ?_
    refine j_iald jb dX12_depth_25 1 rfl (by omega) (by decide) ?_
    refine j_aload_n jb dX12_depth_26 0 rfl ?_
    refine j_get jb f_X12_16 dX12_depth_27 0 rfl rfl ?_
    refine j_iconst jb dX12_depth_30 ?_
    refine j_iald jb dX12_depth_31 1 rfl (by omega) (by decide) ?_
    refine j_iadd jb dX12_depth_32 ?_
    refine j_if_le (tgt := 39) jb dX12_depth_33 (by decide) (by omega) (fun c_33 => ?_) (fun c_33 => ?_)
    · skip
      refine j_aload_n jb dX12_depth_39 0 rfl ?_
      refine j_get jb f_X12_13 dX12_depth_40 0 rfl rfl ?_
      refine j_istore_n (lv' := [(2, .int (iI dp)), (0, .ref n0), (1, .int (iI b))]) jb dX12_depth_43 rfl (by decide) rfl ?_
      refine j_aload_n jb dX12_depth_44 1 rfl ?_
      refine j_iload_n jb dX12_depth_45 2 rfl ?_
      refine j_put (ws' := [(n0, oX12 0 b my sm st sz mo ms yb hpk pkr rt rk rx hsh si gt va vn wd wa re ua pkk pxx bp mk bi pl cd rn rch rtn rdp rki rea rby rsh), (my, aI x.g 2 cn)]) jb f_X12_13 w_X12_1 rfl dX12_depth_46 0 rfl rfl rfl (Nat.le_of_ble_eq_true rfl) rfl ?_
      refine j_iload_n jb dX12_depth_49 0 rfl ?_
      refine j_norm (lv' := []) (st' := [.int (iI dp)]) (ws' := [(n0, oX12 0 b my sm st sz mo ms yb hpk pkr rt rk rx hsh si gt va vn wd wa re ua pkk pxx bp mk bi pl cd rn rch rtn rdp rki rea rby rsh), (my, aI x.g 2 cn)]) [] [0, 1] rfl rfl (by decide) rfl ?_
      exact j_iret jb jr dX12_depth_50 ⟨_, _, rfl, rfl, (by omega)⟩
    · skip
      refine j_bipush jb dX12_depth_36 (by decide) ?_
      refine j_norm (lv' := []) (st' := [.int (iI (-3))]) (ws' := [(n0, oX12 0 dp my sm st sz mo ms yb hpk pkr rt rk rx hsh si gt va vn wd wa re ua pkk pxx bp mk bi pl cd rn rch rtn rdp rki rea rby rsh), (my, aI x.g 2 cn)]) [] [0, 1] rfl rfl (by decide) rfl ?_
      exact j_iret jb jr dX12_depth_38 ⟨_, _, rfl, rfl, (by omega)⟩
  · skip
    refine j_bipush jb dX12_depth_17 (by decide) ?_
    refine j_norm (lv' := []) (st' := [.int (iI (-2))]) (ws' := [(n0, oX12 0 dp my sm st sz mo ms yb hpk pkr rt rk rx hsh si gt va vn wd wa re ua pkk pxx bp mk bi pl cd rn rch rtn rdp rki rea rby rsh), (my, aI x.g 2 cn)]) [] [0, 1] rfl rfl (by decide) rfl ?_
    exact j_iret jb jr dX12_depth_19 ⟨_, _, rfl, rfl, (by omega)⟩

set_option maxHeartbeats 4000000 in
set_option maxRecDepth 100000 in
theorem C_X12_sample (l : Launch) (g : GG) (n0 my sm st yb pkr rt rk rx si gt va re ua mk rki rea rby : Nat) (th dp sz mo ms hpk hsh vn wd wa pkk pxx bp bi pl cd rn rch rtn rdp rsh : Int) (ch z : Int) (cn ss : Int → Int) (hcn : (0 ≤ cn 0 ∧ cn 0 ≤ 400) ∧ (0 ≤ cn 1 ∧ cn 1 ≤ 400)) (hc : inR ch) (hz : inR z) (hdp : 1 ≤ dp ∧ dp ≤ 16) : Ctr l g yX12_sample cX12_sample 3 (some .int) 2 60 0 0 [.ref n0, .int (iI ch), .int (iI z)] [(n0, oX12 th dp my sm st sz mo ms yb hpk pkr rt rk rx hsh si gt va vn wd wa re ua pkk pxx bp mk bi pl cd rn rch rtn rdp rki rea rby rsh), (my, aI g 2 cn), (sm, aI g 800 ss)] (fun vv ww => ∃ (r : Int) (cn2 ss2 : Int → Int), vv = some (.int (iI r)) ∧ ww = [(n0, oX12 0 dp my sm st sz mo ms yb hpk pkr rt rk rx hsh si gt va vn wd wa re ua pkk pxx bp mk bi pl cd rn rch rtn rdp rki rea rby rsh), (my, aI g 2 cn2), (sm, aI g 800 ss2)] ∧ ((¬ (0 ≤ ch ∧ ch < 2) ∨ ¬ fit z dp) → r = -2 ∧ cn2 = cn ∧ ss2 = ss) ∧ (¬ (¬ (0 ≤ ch ∧ ch < 2) ∨ ¬ fit z dp) ∧ 400 ≤ cn ch → r = -4 ∧ cn2 = cn ∧ ss2 = ss) ∧ (¬ (¬ (0 ≤ ch ∧ ch < 2) ∨ ¬ fit z dp) ∧ cn ch < 400 → r = cn ch + 1 ∧ cn2 = zup cn ch (cn ch + 1) ∧ ss2 = zup ss (400 * ch + cn ch) z)) := by
  refine Ctr.of [(0, .ref n0), (1, .int (iI ch)), (2, .int (iI z))] (by decide) (Nat.le_of_ble_eq_true rfl) rfl ?_
  intro x hxl hxg jb jr hin
  subst hxl; subst hxg
  refine j_aload_n jb dX12_sample_0 0 rfl ?_
  refine j_iconst jb dX12_sample_1 ?_
  refine j_put (ws' := [(n0, oX12 0 dp my sm st sz mo ms yb hpk pkr rt rk rx hsh si gt va vn wd wa re ua pkk pxx bp mk bi pl cd rn rch rtn rdp rki rea rby rsh), (my, aI x.g 2 cn), (sm, aI x.g 800 ss)]) jb f_X12_1 w_X12_0 rfl dX12_sample_2 0 rfl rfl rfl (Nat.le_of_ble_eq_true rfl) rfl ?_
  refine j_iload_n jb dX12_sample_5 1 rfl ?_
  refine j_i2l jb dX12_sample_6 (by omega) ?_
  refine j_lconst (z := 0) jb dX12_sample_7 rfl ?_
  refine j_lconst (z := 1) jb dX12_sample_8 rfl ?_
  refine j_callS (wr := [(n0, oX12 0 dp my sm st sz mo ms yb hpk pkr rt rk rx hsh si gt va vn wd wa re ua pkk pxx bp mk bi pl cd rn rch rtn rdp rki rea rby rsh), (my, aI x.g 2 cn), (sm, aI x.g 800 ss)]) jb k_X12_in t_X12_in l_X12_72 (C_X12_in x.l x.g ch 0 1 (by omega) (by omega) (by omega)) [] [0, 1, 2] (by decide) rfl rfl (by decide) (by decide) rfl rfl (Nat.le_of_ble_eq_true rfl) (by decide) dX12_sample_9 (fun v w hp => ?_)
  obtain ⟨rfl, rfl⟩ := hp
  refine j_norm (lv' := [(0, .ref n0), (1, .int (iI ch)), (2, .int (iI z))]) (st' := [.int (iI (b2i (0 ≤ ch ∧ ch ≤ 1)))]) (ws' := [(n0, oX12 0 dp my sm st sz mo ms yb hpk pkr rt rk rx hsh si gt va vn wd wa re ua pkk pxx bp mk bi pl cd rn rch rtn rdp rki rea rby rsh), (my, aI x.g 2 cn), (sm, aI x.g 800 ss)]) [0, 1, 2] [0, 1, 2] rfl rfl (by decide) rfl ?_
  refine j_ifb_eq (tgt := 27) jb dX12_sample_12 (by decide) (fun c_12 => ?_) (fun c_12 => ?_)
  · skip
    refine j_bipush jb dX12_sample_27 (by decide) ?_
    refine j_norm (lv' := []) (st' := [.int (iI (-2))]) (ws' := [(n0, oX12 0 dp my sm st sz mo ms yb hpk pkr rt rk rx hsh si gt va vn wd wa re ua pkk pxx bp mk bi pl cd rn rch rtn rdp rki rea rby rsh), (my, aI x.g 2 cn), (sm, aI x.g 800 ss)]) [] [0, 1, 2] rfl rfl (by decide) rfl ?_
    exact j_iret jb jr dX12_sample_29 ⟨_, _, _, rfl, rfl, (by have hb : (¬ (0 ≤ ch ∧ ch < 2) ∨ ¬ fit z dp) := (by first | exact Or.inl (by omega) | exact Or.inr c_24); exact ⟨fun _ => ⟨rfl, rfl, rfl⟩, fun q => absurd hb q.1, fun q => absurd hb q.1⟩)⟩
  · skip
    refine j_iload_n jb dX12_sample_15 2 rfl ?_
    refine j_i2l jb dX12_sample_16 (by omega) ?_
    refine j_aload_n jb dX12_sample_17 0 rfl ?_
    refine j_get jb f_X12_13 dX12_sample_18 0 rfl rfl ?_
    refine j_callS (wr := [(n0, oX12 0 dp my sm st sz mo ms yb hpk pkr rt rk rx hsh si gt va vn wd wa re ua pkk pxx bp mk bi pl cd rn rch rtn rdp rki rea rby rsh), (my, aI x.g 2 cn), (sm, aI x.g 800 ss)]) jb k_X12_fits t_X12_fits l_X12_78 (C_X12_fits x.l x.g z dp (by omega) (by omega)) [] [0, 1, 2] (by decide) rfl rfl (by decide) (by decide) rfl rfl (Nat.le_of_ble_eq_true rfl) (by decide) dX12_sample_21 (fun v w hp => ?_)
    obtain ⟨rfl, rfl⟩ := hp
    refine j_norm (lv' := [(0, .ref n0), (1, .int (iI ch)), (2, .int (iI z))]) (st' := [.int (iI (b2i (fit z dp)))]) (ws' := [(n0, oX12 0 dp my sm st sz mo ms yb hpk pkr rt rk rx hsh si gt va vn wd wa re ua pkk pxx bp mk bi pl cd rn rch rtn rdp rki rea rby rsh), (my, aI x.g 2 cn), (sm, aI x.g 800 ss)]) [0, 1, 2] [0, 1, 2] rfl rfl (by decide) rfl ?_
    refine j_ifb_ne (tgt := 30) jb dX12_sample_24 (by decide) (fun c_24 => ?_) (fun c_24 => ?_)
    · skip
      have hch : ch = 0 ∨ ch = 1 := by omega
      have hnb : ¬ (¬ (0 ≤ ch ∧ ch < 2) ∨ ¬ fit z dp) := fun q => q.elim (fun y => y (by omega)) (fun y => y c_24)
      have hci : 0 ≤ cn ch ∧ cn ch ≤ 400 := by (rcases hch with e | e; { rw [e]; exact hcn.1 }; { rw [e]; exact hcn.2 })
      refine j_aload_n jb dX12_sample_30 0 rfl ?_
      refine j_get jb f_X12_16 dX12_sample_31 0 rfl rfl ?_
      refine j_iload_n jb dX12_sample_34 1 rfl ?_
      refine j_iald jb dX12_sample_35 1 rfl (by omega) (by decide) ?_
      refine j_sipush jb dX12_sample_36 (by decide) ?_
      refine j_icmp_ne (tgt := 45) jb dX12_sample_39 (by decide) (by omega) (by omega) (fun c_39 => ?_) (fun c_39 => ?_)
      · skip
        refine j_aload_n jb dX12_sample_45 0 rfl ?_
        refine j_get jb f_X12_20 dX12_sample_46 0 rfl rfl ?_
        refine j_sipush jb dX12_sample_49 (by decide) ?_
        refine j_iload_n jb dX12_sample_52 1 rfl ?_
        refine j_imul jb dX12_sample_53 ?_
        refine j_aload_n jb dX12_sample_54 0 rfl ?_
        refine j_get jb f_X12_16 dX12_sample_55 0 rfl rfl ?_
        refine j_iload_n jb dX12_sample_58 1 rfl ?_
        refine j_iald jb dX12_sample_59 1 rfl (by omega) (by decide) ?_
        refine j_iadd jb dX12_sample_60 ?_
        refine j_iload_n jb dX12_sample_61 2 rfl ?_
        refine j_iast (ws' := [(n0, oX12 0 dp my sm st sz mo ms yb hpk pkr rt rk rx hsh si gt va vn wd wa re ua pkk pxx bp mk bi pl cd rn rch rtn rdp rki rea rby rsh), (my, aI x.g 2 cn), (sm, aI x.g 800 (zup ss ((400 * ch) + (cn ch)) z))]) jb dX12_sample_62 2 rfl (by omega) (by decide) rfl ?_
        refine j_aload_n jb dX12_sample_63 0 rfl ?_
        refine j_get jb f_X12_16 dX12_sample_64 0 rfl rfl ?_
        refine j_iload_n jb dX12_sample_67 1 rfl ?_
        refine j_dup2 jb dX12_sample_68 rfl rfl ?_
        refine j_iald jb dX12_sample_69 1 rfl (by omega) (by decide) ?_
        refine j_iconst jb dX12_sample_70 ?_
        refine j_iadd jb dX12_sample_71 ?_
        refine j_iast (ws' := [(n0, oX12 0 dp my sm st sz mo ms yb hpk pkr rt rk rx hsh si gt va vn wd wa re ua pkk pxx bp mk bi pl cd rn rch rtn rdp rki rea rby rsh), (my, aI x.g 2 (zup cn ch ((cn ch) + 1))), (sm, aI x.g 800 (zup ss ((400 * ch) + (cn ch)) z))]) jb dX12_sample_72 1 rfl (by omega) (by decide) rfl ?_
        refine j_aload_n jb dX12_sample_73 0 rfl ?_
        refine j_get jb f_X12_16 dX12_sample_74 0 rfl rfl ?_
        refine j_iload_n jb dX12_sample_77 1 rfl ?_
        refine j_iald jb dX12_sample_78 1 rfl (by omega) (by decide) ?_
        refine j_norm (lv' := []) (st' := [.int (iI ((zup cn ch ((cn ch) + 1)) ch))]) (ws' := [(n0, oX12 0 dp my sm st sz mo ms yb hpk pkr rt rk rx hsh si gt va vn wd wa re ua pkk pxx bp mk bi pl cd rn rch rtn rdp rki rea rby rsh), (my, aI x.g 2 (zup cn ch ((cn ch) + 1))), (sm, aI x.g 800 (zup ss ((400 * ch) + (cn ch)) z))]) [] [0, 1, 2] rfl rfl (by decide) rfl ?_
        exact j_iret jb jr dX12_sample_79 ⟨_, _, _, rfl, rfl, ⟨fun q => absurd q hnb, fun q => absurd q.2 (by omega), fun _ => ⟨by rw [zup_s], rfl, rfl⟩⟩⟩
      · skip
        refine j_bipush jb dX12_sample_42 (by decide) ?_
        refine j_norm (lv' := []) (st' := [.int (iI (-4))]) (ws' := [(n0, oX12 0 dp my sm st sz mo ms yb hpk pkr rt rk rx hsh si gt va vn wd wa re ua pkk pxx bp mk bi pl cd rn rch rtn rdp rki rea rby rsh), (my, aI x.g 2 cn), (sm, aI x.g 800 ss)]) [] [0, 1, 2] rfl rfl (by decide) rfl ?_
        exact j_iret jb jr dX12_sample_44 ⟨_, _, _, rfl, rfl, ⟨fun q => absurd q hnb, fun _ => ⟨rfl, rfl, rfl⟩, fun q => absurd q.2 (by omega)⟩⟩
    · skip
      refine j_bipush jb dX12_sample_27 (by decide) ?_
      refine j_norm (lv' := []) (st' := [.int (iI (-2))]) (ws' := [(n0, oX12 0 dp my sm st sz mo ms yb hpk pkr rt rk rx hsh si gt va vn wd wa re ua pkk pxx bp mk bi pl cd rn rch rtn rdp rki rea rby rsh), (my, aI x.g 2 cn), (sm, aI x.g 800 ss)]) [] [0, 1, 2] rfl rfl (by decide) rfl ?_
      exact j_iret jb jr dX12_sample_29 ⟨_, _, _, rfl, rfl, (by have hb : (¬ (0 ≤ ch ∧ ch < 2) ∨ ¬ fit z dp) := (by first | exact Or.inl (by omega) | exact Or.inr c_24); exact ⟨fun _ => ⟨rfl, rfl, rfl⟩, fun q => absurd hb q.1, fun q => absurd hb q.1⟩)⟩

set_option maxHeartbeats 4000000 in
set_option maxRecDepth 100000 in
theorem C_X12_drop (l : Launch) (g : GG) (n0 my sm st yb pkr rt rk rx si gt va re ua mk rki rea rby : Nat) (th dp sz mo ms hpk hsh vn wd wa pkk pxx bp bi pl cd rn rch rtn rdp rsh : Int) (ch : Int) (cn : Int → Int) (hcn : (0 ≤ cn 0 ∧ cn 0 ≤ 400) ∧ (0 ≤ cn 1 ∧ cn 1 ≤ 400)) (hc : inR ch) : Ctr l g yX12_drop cX12_drop 3 (some .int) 1 30 0 0 [.ref n0, .int (iI ch)] [(n0, oX12 th dp my sm st sz mo ms yb hpk pkr rt rk rx hsh si gt va vn wd wa re ua pkk pxx bp mk bi pl cd rn rch rtn rdp rki rea rby rsh), (my, aI g 2 cn)] (fun vv ww => ∃ (r : Int) (cn2 : Int → Int), vv = some (.int (iI r)) ∧ ww = [(n0, oX12 0 dp my sm st sz mo ms yb hpk pkr rt rk rx hsh si gt va vn wd wa re ua pkk pxx bp mk bi pl cd rn rch rtn rdp rki rea rby rsh), (my, aI g 2 cn2)] ∧ (¬ (0 ≤ ch ∧ ch < 2) → r = -2 ∧ cn2 = cn) ∧ ((0 ≤ ch ∧ ch < 2) → r = cn ch ∧ cn2 = zup cn ch 0)) := by
  refine Ctr.of [(0, .ref n0), (1, .int (iI ch))] (by decide) (Nat.le_of_ble_eq_true rfl) rfl ?_
  intro x hxl hxg jb jr hin
  subst hxl; subst hxg
  refine j_aload_n jb dX12_drop_0 0 rfl ?_
  refine j_iconst jb dX12_drop_1 ?_
  refine j_put (ws' := [(n0, oX12 0 dp my sm st sz mo ms yb hpk pkr rt rk rx hsh si gt va vn wd wa re ua pkk pxx bp mk bi pl cd rn rch rtn rdp rki rea rby rsh), (my, aI x.g 2 cn)]) jb f_X12_1 w_X12_0 rfl dX12_drop_2 0 rfl rfl rfl (Nat.le_of_ble_eq_true rfl) rfl ?_
  refine j_iload_n jb dX12_drop_5 1 rfl ?_
  refine j_i2l jb dX12_drop_6 (by omega) ?_
  refine j_lconst (z := 0) jb dX12_drop_7 rfl ?_
  refine j_lconst (z := 1) jb dX12_drop_8 rfl ?_
  refine j_callS (wr := [(n0, oX12 0 dp my sm st sz mo ms yb hpk pkr rt rk rx hsh si gt va vn wd wa re ua pkk pxx bp mk bi pl cd rn rch rtn rdp rki rea rby rsh), (my, aI x.g 2 cn)]) jb k_X12_in t_X12_in l_X12_72 (C_X12_in x.l x.g ch 0 1 (by omega) (by omega) (by omega)) [] [0, 1] (by decide) rfl rfl (by decide) (by decide) rfl rfl (Nat.le_of_ble_eq_true rfl) (by decide) dX12_drop_9 (fun v w hp => ?_)
  obtain ⟨rfl, rfl⟩ := hp
  refine j_norm (lv' := [(0, .ref n0), (1, .int (iI ch))]) (st' := [.int (iI (b2i (0 ≤ ch ∧ ch ≤ 1)))]) (ws' := [(n0, oX12 0 dp my sm st sz mo ms yb hpk pkr rt rk rx hsh si gt va vn wd wa re ua pkk pxx bp mk bi pl cd rn rch rtn rdp rki rea rby rsh), (my, aI x.g 2 cn)]) [0, 1] [0, 1] rfl rfl (by decide) rfl ?_
  refine j_ifb_ne (tgt := 18) jb dX12_drop_12 (by decide) (fun c_12 => ?_) (fun c_12 => ?_)
  · skip
    refine j_aload_n jb dX12_drop_18 0 rfl ?_
    refine j_get jb f_X12_16 dX12_drop_19 0 rfl rfl ?_
    refine j_iload_n jb dX12_drop_22 1 rfl ?_
    refine j_iald jb dX12_drop_23 1 rfl (by omega) (by decide) ?_
    refine j_istore_n (lv' := [(2, .int (iI (cn ch))), (0, .ref n0), (1, .int (iI ch))]) jb dX12_drop_24 rfl (by decide) rfl ?_
    refine j_aload_n jb dX12_drop_25 1 rfl ?_
    refine j_get jb f_X12_16 dX12_drop_26 0 rfl rfl ?_
    refine j_iload_n jb dX12_drop_29 2 rfl ?_
    refine j_iconst jb dX12_drop_30 ?_
    refine j_iast (ws' := [(n0, oX12 0 dp my sm st sz mo ms yb hpk pkr rt rk rx hsh si gt va vn wd wa re ua pkk pxx bp mk bi pl cd rn rch rtn rdp rki rea rby rsh), (my, aI x.g 2 (zup cn ch 0))]) jb dX12_drop_31 1 rfl (by omega) (by decide) rfl ?_
    refine j_iload_n jb dX12_drop_32 0 rfl ?_
    refine j_norm (lv' := []) (st' := [.int (iI (cn ch))]) (ws' := [(n0, oX12 0 dp my sm st sz mo ms yb hpk pkr rt rk rx hsh si gt va vn wd wa re ua pkk pxx bp mk bi pl cd rn rch rtn rdp rki rea rby rsh), (my, aI x.g 2 (zup cn ch 0))]) [] [0, 1] rfl rfl (by decide) rfl ?_
    exact j_iret jb jr dX12_drop_33 ⟨_, _, rfl, rfl, ⟨fun q => absurd (show 0 ≤ ch ∧ ch < 2 by omega) q, fun _ => ⟨rfl, rfl⟩⟩⟩
  · skip
    refine j_bipush jb dX12_drop_15 (by decide) ?_
    refine j_norm (lv' := []) (st' := [.int (iI (-2))]) (ws' := [(n0, oX12 0 dp my sm st sz mo ms yb hpk pkr rt rk rx hsh si gt va vn wd wa re ua pkk pxx bp mk bi pl cd rn rch rtn rdp rki rea rby rsh), (my, aI x.g 2 cn)]) [] [0, 1] rfl rfl (by decide) rfl ?_
    exact j_iret jb jr dX12_drop_17 ⟨_, _, rfl, rfl, ⟨fun _ => ⟨rfl, rfl⟩, fun q => absurd (show 0 ≤ ch ∧ ch ≤ 1 by omega) c_12⟩⟩

set_option maxHeartbeats 4000000 in
set_option maxRecDepth 100000 in
theorem C_X12_coefficients (l : Launch) (g : GG) (n0 my sm st yb pkr rt rk rx si gt va re ua mk rki rea rby : Nat) (th dp sz mo ms hpk hsh vn wd wa pkk pxx bp bi pl cd rn rch rtn rdp rsh : Int) (o2 s2 al : Int) (oc : Int → Int) (h1 : inR o2) (h2 : inR s2) (hal : inL al) : Ctr l g yX12_coefficients cX12_coefficients 8 (some .int) 1 30 0 0 [.ref n0, .int (iI o2), .int (iI s2), .long (lI al)] [(n0, oX12 th dp my sm st sz mo ms yb hpk pkr rt rk rx hsh si gt va vn wd wa re ua pkk pxx bp mk bi pl cd rn rch rtn rdp rki rea rby rsh), (yb, aI g 4 oc)] (fun vv ww => ∃ (r mo2 ms2 : Int) (oc2 : Int → Int), vv = some (.int (iI r)) ∧ ww = [(n0, oX12 0 dp my sm st sz mo2 ms2 yb hpk pkr rt rk rx hsh si gt va vn wd wa re ua pkk pxx bp mk bi pl cd rn rch rtn rdp rki rea rby rsh), (yb, aI g 4 oc2)] ∧ ((¬ (0 ≤ o2 ∧ o2 ≤ 4) ∨ (¬ o2 = 0 ∧ ¬ (0 ≤ s2 ∧ s2 ≤ 15))) → r = -2 ∧ mo2 = mo ∧ ms2 = ms ∧ oc2 = oc) ∧ (¬ (¬ (0 ≤ o2 ∧ o2 ≤ 4) ∨ (¬ o2 = 0 ∧ ¬ (0 ≤ s2 ∧ s2 ≤ 15))) → r = mo ∧ mo2 = o2 ∧ (0 < o2 → ms2 = s2) ∧ (∀ j, 0 ≤ j → j < o2 → oc2 j = sgn (al / 2 ^ (j * 10).toNat) 10) ∧ (∀ j, o2 ≤ j → oc2 j = oc j))) := by
  refine Ctr.of [(0, .ref n0), (1, .int (iI o2)), (2, .int (iI s2)), (3, .long (lI al))] (by decide) (Nat.le_of_ble_eq_true rfl) rfl ?_
  intro x hxl hxg jb jr hin
  subst hxl; subst hxg
  refine j_aload_n jb dX12_coefficients_0 0 rfl ?_
  refine j_iconst jb dX12_coefficients_1 ?_
  refine j_put (ws' := [(n0, oX12 0 dp my sm st sz mo ms yb hpk pkr rt rk rx hsh si gt va vn wd wa re ua pkk pxx bp mk bi pl cd rn rch rtn rdp rki rea rby rsh), (yb, aI x.g 4 oc)]) jb f_X12_1 w_X12_0 rfl dX12_coefficients_2 0 rfl rfl rfl (Nat.le_of_ble_eq_true rfl) rfl ?_
  refine j_iload_n jb dX12_coefficients_5 1 rfl ?_
  refine j_i2l jb dX12_coefficients_6 (by omega) ?_
  refine j_lconst (z := 0) jb dX12_coefficients_7 rfl ?_
  refine j_ldc2 (z := 4) jb q_X12_82 rfl dX12_coefficients_8 ?_
  refine j_callS (wr := [(n0, oX12 0 dp my sm st sz mo ms yb hpk pkr rt rk rx hsh si gt va vn wd wa re ua pkk pxx bp mk bi pl cd rn rch rtn rdp rki rea rby rsh), (yb, aI x.g 4 oc)]) jb k_X12_in t_X12_in l_X12_72 (C_X12_in x.l x.g o2 0 4 (by omega) (by omega) (by omega)) [] [0, 1] (by decide) rfl rfl (by decide) (by decide) rfl rfl (Nat.le_of_ble_eq_true rfl) (by decide) dX12_coefficients_11 (fun v w hp => ?_)
  obtain ⟨rfl, rfl⟩ := hp
  refine j_norm (lv' := [(0, .ref n0), (1, .int (iI o2)), (2, .int (iI s2)), (3, .long (lI al))]) (st' := [.int (iI (b2i (0 ≤ o2 ∧ o2 ≤ 4)))]) (ws' := [(n0, oX12 0 dp my sm st sz mo ms yb hpk pkr rt rk rx hsh si gt va vn wd wa re ua pkk pxx bp mk bi pl cd rn rch rtn rdp rki rea rby rsh), (yb, aI x.g 4 oc)]) [0, 1, 2, 3] [0, 1] rfl rfl (by decide) rfl ?_
  refine j_ifb_eq (tgt := 33) jb dX12_coefficients_14 (by decide) (fun c_14 => ?_) (fun c_14 => ?_)
  · skip
    refine j_bipush jb dX12_coefficients_33 (by decide) ?_
    refine j_norm (lv' := []) (st' := [.int (iI (-2))]) (ws' := [(n0, oX12 0 dp my sm st sz mo ms yb hpk pkr rt rk rx hsh si gt va vn wd wa re ua pkk pxx bp mk bi pl cd rn rch rtn rdp rki rea rby rsh), (yb, aI x.g 4 oc)]) [] [0, 1] rfl rfl (by decide) rfl ?_
    exact j_iret jb jr dX12_coefficients_35 ⟨_, _, _, _, rfl, rfl, ⟨fun _ => ⟨rfl, rfl, rfl, rfl⟩, fun q => absurd (show (¬ (0 ≤ o2 ∧ o2 ≤ 4) ∨ (¬ o2 = 0 ∧ ¬ (0 ≤ s2 ∧ s2 ≤ 15))) by omega) q⟩⟩
  · skip
    refine j_iload_n jb dX12_coefficients_17 1 rfl ?_
    refine j_if_le (tgt := 36) jb dX12_coefficients_18 (by decide) (by omega) (fun c_18 => ?_) (fun c_18 => ?_)
    · skip
      refine j_aload_n jb dX12_coefficients_36 0 rfl ?_
      refine j_get jb f_X12_86 dX12_coefficients_37 0 rfl rfl ?_
      refine j_istore (lv' := [(5, .int (iI mo)), (0, .ref n0), (1, .int (iI o2)), (2, .int (iI s2)), (3, .long (lI al))]) jb dX12_coefficients_40 (by decide) rfl ?_
      refine j_aload_n jb dX12_coefficients_42 1 rfl ?_
      refine j_iload_n jb dX12_coefficients_43 2 rfl ?_
      refine j_put (ws' := [(n0, oX12 0 dp my sm st sz o2 ms yb hpk pkr rt rk rx hsh si gt va vn wd wa re ua pkk pxx bp mk bi pl cd rn rch rtn rdp rki rea rby rsh), (yb, aI x.g 4 oc)]) jb f_X12_86 w_X12_6 rfl dX12_coefficients_44 0 rfl rfl rfl (Nat.le_of_ble_eq_true rfl) rfl ?_
      refine j_aload_n jb dX12_coefficients_47 1 rfl ?_
      refine j_iload_n jb dX12_coefficients_48 2 rfl ?_
      have J57 : ∀ (ms2 : Int), (0 < o2 → ms2 = s2) → JW x 0 0 57 [(0, .ref n0), (1, .int (iI o2)), (2, .int (iI s2)), (3, .long (lI al)), (5, .int (iI mo))] [.int (iI ms2), .ref n0] [(n0, oX12 0 dp my sm st sz o2 ms yb hpk pkr rt rk rx hsh si gt va vn wd wa re ua pkk pxx bp mk bi pl cd rn rch rtn rdp rki rea rby rsh), (yb, aI x.g 4 oc)] := by
        intro ms2 hms
        refine j_put (ws' := [(n0, oX12 0 dp my sm st sz o2 ms2 yb hpk pkr rt rk rx hsh si gt va vn wd wa re ua pkk pxx bp mk bi pl cd rn rch rtn rdp rki rea rby rsh), (yb, aI x.g 4 oc)]) jb f_X12_89 w_X12_7 rfl dX12_coefficients_57 0 rfl rfl rfl (Nat.le_of_ble_eq_true rfl) rfl ?_
        refine j_iconst jb dX12_coefficients_60 ?_
        refine j_istore (lv' := [(6, .int (iI 0)), (0, .ref n0), (1, .int (iI o2)), (2, .int (iI s2)), (3, .long (lI al)), (5, .int (iI mo))]) jb dX12_coefficients_61 (by decide) rfl ?_
        have L63 : ∀ (fu : Nat) (i : Int) (c1 : Int → Int), (0 ≤ i ∧ i ≤ o2 ∧ (∀ j, 0 ≤ j → j < i → c1 j = sgn (al / 2 ^ (j * 10).toNat) 10) ∧ (∀ j, i ≤ j → c1 j = oc j)) → (o2 - i).toNat < fu → JW x 0 0 63 [(0, .ref n0), (1, .int (iI o2)), (2, .int (iI s2)), (3, .long (lI al)), (5, .int (iI mo)), (6, .int (iI i))] [] [(n0, oX12 0 dp my sm st sz o2 ms2 yb hpk pkr rt rk rx hsh si gt va vn wd wa re ua pkk pxx bp mk bi pl cd rn rch rtn rdp rki rea rby rsh), (yb, aI x.g 4 c1)] := by
          intro fu
          induction fu with
          | zero => intro i c1 _ hm; exact absurd hm (by omega)
          | succ fu ih =>
            intro i c1 ⟨hi1, hi2, hi3, hi4⟩ hm63
            have ih63 := ih
            clear ih
            refine j_iload jb dX12_coefficients_63 5 rfl ?_
            refine j_iload_n jb dX12_coefficients_65 1 rfl ?_
            refine j_icmp_ge (tgt := 115) jb dX12_coefficients_66 (by decide) (by omega) (by omega) (fun c_66 => ?_) (fun c_66 => ?_)
            · skip
              refine j_iload jb dX12_coefficients_115 4 rfl ?_
              refine j_norm (lv' := []) (st' := [.int (iI mo)]) (ws' := [(n0, oX12 0 dp my sm st sz o2 ms2 yb hpk pkr rt rk rx hsh si gt va vn wd wa re ua pkk pxx bp mk bi pl cd rn rch rtn rdp rki rea rby rsh), (yb, aI x.g 4 c1)]) [] [0, 1] rfl rfl (by decide) rfl ?_
              exact j_iret jb jr dX12_coefficients_117 ⟨_, _, _, _, rfl, rfl, ⟨fun q => absurd q (by omega), fun _ => ⟨rfl, rfl, hms, fun j a b => hi3 j a (by omega), fun j a => hi4 j (by omega)⟩⟩⟩
            · skip
              refine j_lload_n jb dX12_coefficients_69 3 rfl ?_
              refine j_bipush jb dX12_coefficients_70 (by decide) ?_
              refine j_iload jb dX12_coefficients_72 5 rfl ?_
              refine j_imul jb dX12_coefficients_74 ?_
              refine j_lushr jb dX12_coefficients_75 (by omega) ?_
              refine j_l2i jb dX12_coefficients_76 ?_
              refine j_sipush jb dX12_coefficients_77 (by decide) ?_
              refine j_iand jb dX12_coefficients_80 ?_
              refine j_topi (al % 18446744073709551616 / 2 ^ (10 * i).toNat % 1024) (zAnd_1023 _) ?_
              refine j_geni (fun w9 e_w9 => ?_)
              refine j_istore (lv' := [(7, .int (iI w9)), (0, .ref n0), (1, .int (iI o2)), (2, .int (iI s2)), (3, .long (lI al)), (5, .int (iI mo)), (6, .int (iI i))]) jb dX12_coefficients_81 (by decide) rfl ?_
              have hw9 : 0 ≤ w9 ∧ w9 < 1024 := by omega
              refine j_aload_n jb dX12_coefficients_83 1 rfl ?_
              refine j_get jb f_X12_26 dX12_coefficients_84 0 rfl rfl ?_
              refine j_iload jb dX12_coefficients_87 6 rfl ?_
              refine j_iload jb dX12_coefficients_89 0 rfl ?_
              refine j_sipush jb dX12_coefficients_91 (by decide) ?_
              refine j_icmp_le (tgt := 106) jb dX12_coefficients_94 (by decide) (by omega) (by omega) (fun c_94 => ?_) (fun c_94 => ?_)
              · skip
                refine j_iload jb dX12_coefficients_106 0 rfl ?_
                refine j_iast (ws' := [(n0, oX12 0 dp my sm st sz o2 ms2 yb hpk pkr rt rk rx hsh si gt va vn wd wa re ua pkk pxx bp mk bi pl cd rn rch rtn rdp rki rea rby rsh), (yb, aI x.g 4 (zup c1 i w9))]) jb dX12_coefficients_108 1 rfl (by omega) (by decide) rfl ?_
                refine j_iinc (lv' := [(6, .int (iI (i + 1))), (7, .int (iI w9)), (0, .ref n0), (1, .int (iI o2)), (2, .int (iI s2)), (3, .long (lI al)), (5, .int (iI mo))]) jb dX12_coefficients_109 6 rfl (by decide) rfl ?_
                refine j_goto (tgt := 63) jb dX12_coefficients_112 (by decide) ?_
                refine j_norm (lv' := [(0, .ref n0), (1, .int (iI o2)), (2, .int (iI s2)), (3, .long (lI al)), (5, .int (iI mo)), (6, .int (iI (i + 1)))]) (st' := []) (ws' := [(n0, oX12 0 dp my sm st sz o2 ms2 yb hpk pkr rt rk rx hsh si gt va vn wd wa re ua pkk pxx bp mk bi pl cd rn rch rtn rdp rki rea rby rsh), (yb, aI x.g 4 (zup c1 i w9))]) [2, 3, 4, 5, 6, 0] [0, 1] rfl rfl (by decide) rfl ?_
                exact ih63 (i + 1) (zup c1 i w9) ⟨by omega, by omega, fun j a b => by (by_cases e : j = i); { rw [e, zup_s, ten_sgn _ w9 (by rw [e_w9, ten_bits _ _ hi1 (by omega)])]; first | (rw [if_pos (by omega)]; done) | (rw [if_neg (by omega)]; done) }; { rw [zup_n e]; exact hi3 j a (by omega) }, fun j a => by rw [zup_n (by omega)]; exact hi4 j (by omega)⟩ (by omega)
              · skip
                refine j_iload jb dX12_coefficients_97 0 rfl ?_
                refine j_sipush jb dX12_coefficients_99 (by decide) ?_
                refine j_isub jb dX12_coefficients_102 ?_
                refine j_goto (tgt := 108) jb dX12_coefficients_103 (by decide) ?_
                refine j_iast (ws' := [(n0, oX12 0 dp my sm st sz o2 ms2 yb hpk pkr rt rk rx hsh si gt va vn wd wa re ua pkk pxx bp mk bi pl cd rn rch rtn rdp rki rea rby rsh), (yb, aI x.g 4 (zup c1 i (w9 - 1024)))]) jb dX12_coefficients_108 1 rfl (by omega) (by decide) rfl ?_
                refine j_iinc (lv' := [(6, .int (iI (i + 1))), (7, .int (iI w9)), (0, .ref n0), (1, .int (iI o2)), (2, .int (iI s2)), (3, .long (lI al)), (5, .int (iI mo))]) jb dX12_coefficients_109 6 rfl (by decide) rfl ?_
                refine j_goto (tgt := 63) jb dX12_coefficients_112 (by decide) ?_
                refine j_norm (lv' := [(0, .ref n0), (1, .int (iI o2)), (2, .int (iI s2)), (3, .long (lI al)), (5, .int (iI mo)), (6, .int (iI (i + 1)))]) (st' := []) (ws' := [(n0, oX12 0 dp my sm st sz o2 ms2 yb hpk pkr rt rk rx hsh si gt va vn wd wa re ua pkk pxx bp mk bi pl cd rn rch rtn rdp rki rea rby rsh), (yb, aI x.g 4 (zup c1 i (w9 - 1024)))]) [2, 3, 4, 5, 6, 0] [0, 1] rfl rfl (by decide) rfl ?_
                exact ih63 (i + 1) (zup c1 i (w9 - 1024)) ⟨by omega, by omega, fun j a b => by (by_cases e : j = i); { rw [e, zup_s, ten_sgn _ w9 (by rw [e_w9, ten_bits _ _ hi1 (by omega)])]; first | (rw [if_pos (by omega)]; done) | (rw [if_neg (by omega)]; done) }; { rw [zup_n e]; exact hi3 j a (by omega) }, fun j a => by rw [zup_n (by omega)]; exact hi4 j (by omega)⟩ (by omega)
        refine j_norm (lv' := [(0, .ref n0), (1, .int (iI o2)), (2, .int (iI s2)), (3, .long (lI al)), (5, .int (iI mo)), (6, .int (iI 0))]) (st' := []) (ws' := [(n0, oX12 0 dp my sm st sz o2 ms2 yb hpk pkr rt rk rx hsh si gt va vn wd wa re ua pkk pxx bp mk bi pl cd rn rch rtn rdp rki rea rby rsh), (yb, aI x.g 4 oc)]) [1, 2, 3, 4, 5, 0] [0, 1] rfl rfl (by decide) rfl ?_
        exact L63 _ 0 oc ⟨by decide, by omega, fun j a b => by omega, fun _ _ => rfl⟩ (Nat.lt_succ_self _)
      refine j_if_le (tgt := 56) jb dX12_coefficients_49 (by decide) (by omega) (fun c_49 => ?_) (fun c_49 => ?_)
      · skip
        refine j_iconst jb dX12_coefficients_56 ?_
        refine j_norm (lv' := [(0, .ref n0), (1, .int (iI o2)), (2, .int (iI s2)), (3, .long (lI al)), (5, .int (iI mo))]) (st' := [.int (iI 0), .ref n0]) (ws' := [(n0, oX12 0 dp my sm st sz o2 ms yb hpk pkr rt rk rx hsh si gt va vn wd wa re ua pkk pxx bp mk bi pl cd rn rch rtn rdp rki rea rby rsh), (yb, aI x.g 4 oc)]) [1, 2, 3, 4, 0] [0, 1] rfl rfl (by decide) rfl ?_
        exact J57 0 (fun q => absurd q (by omega))
      · skip
        refine j_iload_n jb dX12_coefficients_52 3 rfl ?_
        refine j_goto (tgt := 57) jb dX12_coefficients_53 (by decide) ?_
        refine j_norm (lv' := [(0, .ref n0), (1, .int (iI o2)), (2, .int (iI s2)), (3, .long (lI al)), (5, .int (iI mo))]) (st' := [.int (iI s2), .ref n0]) (ws' := [(n0, oX12 0 dp my sm st sz o2 ms yb hpk pkr rt rk rx hsh si gt va vn wd wa re ua pkk pxx bp mk bi pl cd rn rch rtn rdp rki rea rby rsh), (yb, aI x.g 4 oc)]) [1, 2, 3, 4, 0] [0, 1] rfl rfl (by decide) rfl ?_
        exact J57 s2 (fun _ => rfl)
    · skip
      refine j_iload_n jb dX12_coefficients_21 2 rfl ?_
      refine j_i2l jb dX12_coefficients_22 (by omega) ?_
      refine j_lconst (z := 0) jb dX12_coefficients_23 rfl ?_
      refine j_ldc2 (z := 15) jb q_X12_84 rfl dX12_coefficients_24 ?_
      refine j_callS (wr := [(n0, oX12 0 dp my sm st sz mo ms yb hpk pkr rt rk rx hsh si gt va vn wd wa re ua pkk pxx bp mk bi pl cd rn rch rtn rdp rki rea rby rsh), (yb, aI x.g 4 oc)]) jb k_X12_in t_X12_in l_X12_72 (C_X12_in x.l x.g s2 0 15 (by omega) (by omega) (by omega)) [] [0, 1] (by decide) rfl rfl (by decide) (by decide) rfl rfl (Nat.le_of_ble_eq_true rfl) (by decide) dX12_coefficients_27 (fun v w hp => ?_)
      obtain ⟨rfl, rfl⟩ := hp
      refine j_norm (lv' := [(0, .ref n0), (1, .int (iI o2)), (2, .int (iI s2)), (3, .long (lI al))]) (st' := [.int (iI (b2i (0 ≤ s2 ∧ s2 ≤ 15)))]) (ws' := [(n0, oX12 0 dp my sm st sz mo ms yb hpk pkr rt rk rx hsh si gt va vn wd wa re ua pkk pxx bp mk bi pl cd rn rch rtn rdp rki rea rby rsh), (yb, aI x.g 4 oc)]) [0, 1, 2, 3] [0, 1] rfl rfl (by decide) rfl ?_
      refine j_ifb_ne (tgt := 36) jb dX12_coefficients_30 (by decide) (fun c_30 => ?_) (fun c_30 => ?_)
      · skip
        refine j_aload_n jb dX12_coefficients_36 0 rfl ?_
        refine j_get jb f_X12_86 dX12_coefficients_37 0 rfl rfl ?_
        refine j_istore (lv' := [(5, .int (iI mo)), (0, .ref n0), (1, .int (iI o2)), (2, .int (iI s2)), (3, .long (lI al))]) jb dX12_coefficients_40 (by decide) rfl ?_
        refine j_aload_n jb dX12_coefficients_42 1 rfl ?_
        refine j_iload_n jb dX12_coefficients_43 2 rfl ?_
        refine j_put (ws' := [(n0, oX12 0 dp my sm st sz o2 ms yb hpk pkr rt rk rx hsh si gt va vn wd wa re ua pkk pxx bp mk bi pl cd rn rch rtn rdp rki rea rby rsh), (yb, aI x.g 4 oc)]) jb f_X12_86 w_X12_6 rfl dX12_coefficients_44 0 rfl rfl rfl (Nat.le_of_ble_eq_true rfl) rfl ?_
        refine j_aload_n jb dX12_coefficients_47 1 rfl ?_
        refine j_iload_n jb dX12_coefficients_48 2 rfl ?_
        have J57 : ∀ (ms2 : Int), (0 < o2 → ms2 = s2) → JW x 0 0 57 [(0, .ref n0), (1, .int (iI o2)), (2, .int (iI s2)), (3, .long (lI al)), (5, .int (iI mo))] [.int (iI ms2), .ref n0] [(n0, oX12 0 dp my sm st sz o2 ms yb hpk pkr rt rk rx hsh si gt va vn wd wa re ua pkk pxx bp mk bi pl cd rn rch rtn rdp rki rea rby rsh), (yb, aI x.g 4 oc)] := by
          intro ms2 hms
          refine j_put (ws' := [(n0, oX12 0 dp my sm st sz o2 ms2 yb hpk pkr rt rk rx hsh si gt va vn wd wa re ua pkk pxx bp mk bi pl cd rn rch rtn rdp rki rea rby rsh), (yb, aI x.g 4 oc)]) jb f_X12_89 w_X12_7 rfl dX12_coefficients_57 0 rfl rfl rfl (Nat.le_of_ble_eq_true rfl) rfl ?_
          refine j_iconst jb dX12_coefficients_60 ?_
          refine j_istore (lv' := [(6, .int (iI 0)), (0, .ref n0), (1, .int (iI o2)), (2, .int (iI s2)), (3, .long (lI al)), (5, .int (iI mo))]) jb dX12_coefficients_61 (by decide) rfl ?_
          have L63 : ∀ (fu : Nat) (i : Int) (c1 : Int → Int), (0 ≤ i ∧ i ≤ o2 ∧ (∀ j, 0 ≤ j → j < i → c1 j = sgn (al / 2 ^ (j * 10).toNat) 10) ∧ (∀ j, i ≤ j → c1 j = oc j)) → (o2 - i).toNat < fu → JW x 0 0 63 [(0, .ref n0), (1, .int (iI o2)), (2, .int (iI s2)), (3, .long (lI al)), (5, .int (iI mo)), (6, .int (iI i))] [] [(n0, oX12 0 dp my sm st sz o2 ms2 yb hpk pkr rt rk rx hsh si gt va vn wd wa re ua pkk pxx bp mk bi pl cd rn rch rtn rdp rki rea rby rsh), (yb, aI x.g 4 c1)] := by
            intro fu
            induction fu with
            | zero => intro i c1 _ hm; exact absurd hm (by omega)
            | succ fu ih =>
              intro i c1 ⟨hi1, hi2, hi3, hi4⟩ hm63
              have ih63 := ih
              clear ih
              refine j_iload jb dX12_coefficients_63 5 rfl ?_
              refine j_iload_n jb dX12_coefficients_65 1 rfl ?_
              refine j_icmp_ge (tgt := 115) jb dX12_coefficients_66 (by decide) (by omega) (by omega) (fun c_66 => ?_) (fun c_66 => ?_)
              · skip
                refine j_iload jb dX12_coefficients_115 4 rfl ?_
                refine j_norm (lv' := []) (st' := [.int (iI mo)]) (ws' := [(n0, oX12 0 dp my sm st sz o2 ms2 yb hpk pkr rt rk rx hsh si gt va vn wd wa re ua pkk pxx bp mk bi pl cd rn rch rtn rdp rki rea rby rsh), (yb, aI x.g 4 c1)]) [] [0, 1] rfl rfl (by decide) rfl ?_
                exact j_iret jb jr dX12_coefficients_117 ⟨_, _, _, _, rfl, rfl, ⟨fun q => absurd q (by omega), fun _ => ⟨rfl, rfl, hms, fun j a b => hi3 j a (by omega), fun j a => hi4 j (by omega)⟩⟩⟩
              · skip
                refine j_lload_n jb dX12_coefficients_69 3 rfl ?_
                refine j_bipush jb dX12_coefficients_70 (by decide) ?_
                refine j_iload jb dX12_coefficients_72 5 rfl ?_
                refine j_imul jb dX12_coefficients_74 ?_
                refine j_lushr jb dX12_coefficients_75 (by omega) ?_
                refine j_l2i jb dX12_coefficients_76 ?_
                refine j_sipush jb dX12_coefficients_77 (by decide) ?_
                refine j_iand jb dX12_coefficients_80 ?_
                refine j_topi (al % 18446744073709551616 / 2 ^ (10 * i).toNat % 1024) (zAnd_1023 _) ?_
                refine j_geni (fun w9 e_w9 => ?_)
                refine j_istore (lv' := [(7, .int (iI w9)), (0, .ref n0), (1, .int (iI o2)), (2, .int (iI s2)), (3, .long (lI al)), (5, .int (iI mo)), (6, .int (iI i))]) jb dX12_coefficients_81 (by decide) rfl ?_
                have hw9 : 0 ≤ w9 ∧ w9 < 1024 := by omega
                refine j_aload_n jb dX12_coefficients_83 1 rfl ?_
                refine j_get jb f_X12_26 dX12_coefficients_84 0 rfl rfl ?_
                refine j_iload jb dX12_coefficients_87 6 rfl ?_
                refine j_iload jb dX12_coefficients_89 0 rfl ?_
                refine j_sipush jb dX12_coefficients_91 (by decide) ?_
                refine j_icmp_le (tgt := 106) jb dX12_coefficients_94 (by decide) (by omega) (by omega) (fun c_94 => ?_) (fun c_94 => ?_)
                · skip
                  refine j_iload jb dX12_coefficients_106 0 rfl ?_
                  refine j_iast (ws' := [(n0, oX12 0 dp my sm st sz o2 ms2 yb hpk pkr rt rk rx hsh si gt va vn wd wa re ua pkk pxx bp mk bi pl cd rn rch rtn rdp rki rea rby rsh), (yb, aI x.g 4 (zup c1 i w9))]) jb dX12_coefficients_108 1 rfl (by omega) (by decide) rfl ?_
                  refine j_iinc (lv' := [(6, .int (iI (i + 1))), (7, .int (iI w9)), (0, .ref n0), (1, .int (iI o2)), (2, .int (iI s2)), (3, .long (lI al)), (5, .int (iI mo))]) jb dX12_coefficients_109 6 rfl (by decide) rfl ?_
                  refine j_goto (tgt := 63) jb dX12_coefficients_112 (by decide) ?_
                  refine j_norm (lv' := [(0, .ref n0), (1, .int (iI o2)), (2, .int (iI s2)), (3, .long (lI al)), (5, .int (iI mo)), (6, .int (iI (i + 1)))]) (st' := []) (ws' := [(n0, oX12 0 dp my sm st sz o2 ms2 yb hpk pkr rt rk rx hsh si gt va vn wd wa re ua pkk pxx bp mk bi pl cd rn rch rtn rdp rki rea rby rsh), (yb, aI x.g 4 (zup c1 i w9))]) [2, 3, 4, 5, 6, 0] [0, 1] rfl rfl (by decide) rfl ?_
                  exact ih63 (i + 1) (zup c1 i w9) ⟨by omega, by omega, fun j a b => by (by_cases e : j = i); { rw [e, zup_s, ten_sgn _ w9 (by rw [e_w9, ten_bits _ _ hi1 (by omega)])]; first | (rw [if_pos (by omega)]; done) | (rw [if_neg (by omega)]; done) }; { rw [zup_n e]; exact hi3 j a (by omega) }, fun j a => by rw [zup_n (by omega)]; exact hi4 j (by omega)⟩ (by omega)
                · skip
                  refine j_iload jb dX12_coefficients_97 0 rfl ?_
                  refine j_sipush jb dX12_coefficients_99 (by decide) ?_
                  refine j_isub jb dX12_coefficients_102 ?_
                  refine j_goto (tgt := 108) jb dX12_coefficients_103 (by decide) ?_
                  refine j_iast (ws' := [(n0, oX12 0 dp my sm st sz o2 ms2 yb hpk pkr rt rk rx hsh si gt va vn wd wa re ua pkk pxx bp mk bi pl cd rn rch rtn rdp rki rea rby rsh), (yb, aI x.g 4 (zup c1 i (w9 - 1024)))]) jb dX12_coefficients_108 1 rfl (by omega) (by decide) rfl ?_
                  refine j_iinc (lv' := [(6, .int (iI (i + 1))), (7, .int (iI w9)), (0, .ref n0), (1, .int (iI o2)), (2, .int (iI s2)), (3, .long (lI al)), (5, .int (iI mo))]) jb dX12_coefficients_109 6 rfl (by decide) rfl ?_
                  refine j_goto (tgt := 63) jb dX12_coefficients_112 (by decide) ?_
                  refine j_norm (lv' := [(0, .ref n0), (1, .int (iI o2)), (2, .int (iI s2)), (3, .long (lI al)), (5, .int (iI mo)), (6, .int (iI (i + 1)))]) (st' := []) (ws' := [(n0, oX12 0 dp my sm st sz o2 ms2 yb hpk pkr rt rk rx hsh si gt va vn wd wa re ua pkk pxx bp mk bi pl cd rn rch rtn rdp rki rea rby rsh), (yb, aI x.g 4 (zup c1 i (w9 - 1024)))]) [2, 3, 4, 5, 6, 0] [0, 1] rfl rfl (by decide) rfl ?_
                  exact ih63 (i + 1) (zup c1 i (w9 - 1024)) ⟨by omega, by omega, fun j a b => by (by_cases e : j = i); { rw [e, zup_s, ten_sgn _ w9 (by rw [e_w9, ten_bits _ _ hi1 (by omega)])]; first | (rw [if_pos (by omega)]; done) | (rw [if_neg (by omega)]; done) }; { rw [zup_n e]; exact hi3 j a (by omega) }, fun j a => by rw [zup_n (by omega)]; exact hi4 j (by omega)⟩ (by omega)
          refine j_norm (lv' := [(0, .ref n0), (1, .int (iI o2)), (2, .int (iI s2)), (3, .long (lI al)), (5, .int (iI mo)), (6, .int (iI 0))]) (st' := []) (ws' := [(n0, oX12 0 dp my sm st sz o2 ms2 yb hpk pkr rt rk rx hsh si gt va vn wd wa re ua pkk pxx bp mk bi pl cd rn rch rtn rdp rki rea rby rsh), (yb, aI x.g 4 oc)]) [1, 2, 3, 4, 5, 0] [0, 1] rfl rfl (by decide) rfl ?_
          exact L63 _ 0 oc ⟨by decide, by omega, fun j a b => by omega, fun _ _ => rfl⟩ (Nat.lt_succ_self _)
        refine j_if_le (tgt := 56) jb dX12_coefficients_49 (by decide) (by omega) (fun c_49 => ?_) (fun c_49 => ?_)
        · skip
          refine j_iconst jb dX12_coefficients_56 ?_
          refine j_norm (lv' := [(0, .ref n0), (1, .int (iI o2)), (2, .int (iI s2)), (3, .long (lI al)), (5, .int (iI mo))]) (st' := [.int (iI 0), .ref n0]) (ws' := [(n0, oX12 0 dp my sm st sz o2 ms yb hpk pkr rt rk rx hsh si gt va vn wd wa re ua pkk pxx bp mk bi pl cd rn rch rtn rdp rki rea rby rsh), (yb, aI x.g 4 oc)]) [1, 2, 3, 4, 0] [0, 1] rfl rfl (by decide) rfl ?_
          exact J57 0 (fun q => absurd q (by omega))
        · skip
          refine j_iload_n jb dX12_coefficients_52 3 rfl ?_
          refine j_goto (tgt := 57) jb dX12_coefficients_53 (by decide) ?_
          refine j_norm (lv' := [(0, .ref n0), (1, .int (iI o2)), (2, .int (iI s2)), (3, .long (lI al)), (5, .int (iI mo))]) (st' := [.int (iI s2), .ref n0]) (ws' := [(n0, oX12 0 dp my sm st sz o2 ms yb hpk pkr rt rk rx hsh si gt va vn wd wa re ua pkk pxx bp mk bi pl cd rn rch rtn rdp rki rea rby rsh), (yb, aI x.g 4 oc)]) [1, 2, 3, 4, 0] [0, 1] rfl rfl (by decide) rfl ?_
          exact J57 s2 (fun _ => rfl)
      · skip
        refine j_bipush jb dX12_coefficients_33 (by decide) ?_
        refine j_norm (lv' := []) (st' := [.int (iI (-2))]) (ws' := [(n0, oX12 0 dp my sm st sz mo ms yb hpk pkr rt rk rx hsh si gt va vn wd wa re ua pkk pxx bp mk bi pl cd rn rch rtn rdp rki rea rby rsh), (yb, aI x.g 4 oc)]) [] [0, 1] rfl rfl (by decide) rfl ?_
        exact j_iret jb jr dX12_coefficients_35 ⟨_, _, _, _, rfl, rfl, ⟨fun _ => ⟨rfl, rfl, rfl, rfl⟩, fun q => absurd (show (¬ (0 ≤ o2 ∧ o2 ≤ 4) ∨ (¬ o2 = 0 ∧ ¬ (0 ≤ s2 ∧ s2 ≤ 15))) by omega) q⟩⟩

set_option maxHeartbeats 4000000 in
set_option maxRecDepth 100000 in
theorem C_X12_size (l : Launch) (g : GG) (n0 my sm st yb pkr rt rk rx si gt va re ua mk rki rea rby : Nat) (th dp sz mo ms hpk hsh vn wd wa pkk pxx bp bi pl cd rn rch rtn rdp rsh : Int)  : Ctr l g yX12_size cX12_size 1 (some .int) 0 0 0 0 [.ref n0] [(n0, oX12 th dp my sm st sz mo ms yb hpk pkr rt rk rx hsh si gt va vn wd wa re ua pkk pxx bp mk bi pl cd rn rch rtn rdp rki rea rby rsh)] (fun vv ww => vv = some (.int (iI sz)) ∧ ww = [(n0, oX12 0 dp my sm st sz mo ms yb hpk pkr rt rk rx hsh si gt va vn wd wa re ua pkk pxx bp mk bi pl cd rn rch rtn rdp rki rea rby rsh)]) := by
  refine Ctr.of [(0, .ref n0)] (by decide) (Nat.le_of_ble_eq_true rfl) rfl ?_
  intro x hxl hxg jb jr hin
  subst hxl; subst hxg
  refine j_aload_n jb dX12_size_0 0 rfl ?_
  refine j_iconst jb dX12_size_1 ?_
  refine j_put (ws' := [(n0, oX12 0 dp my sm st sz mo ms yb hpk pkr rt rk rx hsh si gt va vn wd wa re ua pkk pxx bp mk bi pl cd rn rch rtn rdp rki rea rby rsh)]) jb f_X12_1 w_X12_0 rfl dX12_size_2 0 rfl rfl rfl (Nat.le_of_ble_eq_true rfl) rfl ?_
  refine j_aload_n jb dX12_size_5 0 rfl ?_
  refine j_get jb f_X12_69 dX12_size_6 0 rfl rfl ?_
  refine j_norm (lv' := []) (st' := [.int (iI sz)]) (ws' := [(n0, oX12 0 dp my sm st sz mo ms yb hpk pkr rt rk rx hsh si gt va vn wd wa re ua pkk pxx bp mk bi pl cd rn rch rtn rdp rki rea rby rsh)]) [] [0] rfl rfl (by decide) rfl ?_
  exact j_iret jb jr dX12_size_9 ⟨rfl, rfl⟩

set_option maxHeartbeats 4000000 in
set_option maxRecDepth 100000 in
theorem C_X12_at (l : Launch) (g : GG) (n0 my sm st yb pkr rt rk rx si gt va re ua mk rki rea rby : Nat) (th dp sz mo ms hpk hsh vn wd wa pkk pxx bp bi pl cd rn rch rtn rdp rsh : Int) (i : Int) (B : Int → Int) (hl : 0 ≤ sz ∧ sz ≤ 2400) (hi : inR i) : Ctr l g yX12_at cX12_at 2 (some .int) 1 30 0 0 [.ref n0, .int (iI i)] [(n0, oX12 th dp my sm st sz mo ms yb hpk pkr rt rk rx hsh si gt va vn wd wa re ua pkk pxx bp mk bi pl cd rn rch rtn rdp rki rea rby rsh), (st, aI g 2400 B)] (fun vv ww => ∃ (r : Int), vv = some (.int (iI r)) ∧ ww = [(n0, oX12 0 dp my sm st sz mo ms yb hpk pkr rt rk rx hsh si gt va vn wd wa re ua pkk pxx bp mk bi pl cd rn rch rtn rdp rki rea rby rsh), (st, aI g 2400 B)] ∧ ((0 ≤ i ∧ i < sz) → r = B i) ∧ (¬ (0 ≤ i ∧ i < sz) → r = -2)) := by
  refine Ctr.of [(0, .ref n0), (1, .int (iI i))] (by decide) (Nat.le_of_ble_eq_true rfl) rfl ?_
  intro x hxl hxg jb jr hin
  subst hxl; subst hxg
  refine j_aload_n jb dX12_at_0 0 rfl ?_
  refine j_iconst jb dX12_at_1 ?_
  refine j_put (ws' := [(n0, oX12 0 dp my sm st sz mo ms yb hpk pkr rt rk rx hsh si gt va vn wd wa re ua pkk pxx bp mk bi pl cd rn rch rtn rdp rki rea rby rsh), (st, aI x.g 2400 B)]) jb f_X12_1 w_X12_0 rfl dX12_at_2 0 rfl rfl rfl (Nat.le_of_ble_eq_true rfl) rfl ?_
  refine j_iload_n jb dX12_at_5 1 rfl ?_
  refine j_i2l jb dX12_at_6 (by omega) ?_
  refine j_lconst (z := 0) jb dX12_at_7 rfl ?_
  refine j_aload_n jb dX12_at_8 0 rfl ?_
  refine j_get jb f_X12_69 dX12_at_9 0 rfl rfl ?_
  refine j_iconst jb dX12_at_12 ?_
  refine j_isub jb dX12_at_13 ?_
  refine j_i2l jb dX12_at_14 (by omega) ?_
  refine j_callS (wr := [(n0, oX12 0 dp my sm st sz mo ms yb hpk pkr rt rk rx hsh si gt va vn wd wa re ua pkk pxx bp mk bi pl cd rn rch rtn rdp rki rea rby rsh), (st, aI x.g 2400 B)]) jb k_X12_in t_X12_in l_X12_72 (C_X12_in x.l x.g i 0 (sz - 1) (by omega) (by omega) (by omega)) [] [0, 1] (by decide) rfl rfl (by decide) (by decide) rfl rfl (Nat.le_of_ble_eq_true rfl) (by decide) dX12_at_15 (fun v w hp => ?_)
  obtain ⟨rfl, rfl⟩ := hp
  refine j_norm (lv' := [(0, .ref n0), (1, .int (iI i))]) (st' := [.int (iI (b2i (0 ≤ i ∧ i ≤ (sz - 1))))]) (ws' := [(n0, oX12 0 dp my sm st sz mo ms yb hpk pkr rt rk rx hsh si gt va vn wd wa re ua pkk pxx bp mk bi pl cd rn rch rtn rdp rki rea rby rsh), (st, aI x.g 2400 B)]) [0, 1] [0, 1] rfl rfl (by decide) rfl ?_
  refine j_ifb_eq (tgt := 30) jb dX12_at_18 (by decide) (fun c_18 => ?_) (fun c_18 => ?_)
  · skip
    refine j_bipush jb dX12_at_30 (by decide) ?_
    refine j_norm (lv' := []) (st' := [.int (iI (-2))]) (ws' := [(n0, oX12 0 dp my sm st sz mo ms yb hpk pkr rt rk rx hsh si gt va vn wd wa re ua pkk pxx bp mk bi pl cd rn rch rtn rdp rki rea rby rsh), (st, aI x.g 2400 B)]) [] [0, 1] rfl rfl (by decide) rfl ?_
    exact j_iret jb jr dX12_at_32 ⟨_, rfl, rfl, (by omega)⟩
  · skip
    refine j_aload_n jb dX12_at_21 0 rfl ?_
    refine j_get jb f_X12_23 dX12_at_22 0 rfl rfl ?_
    refine j_iload_n jb dX12_at_25 1 rfl ?_
    refine j_iald jb dX12_at_26 1 rfl (by omega) (by decide) ?_
    refine j_goto (tgt := 32) jb dX12_at_27 (by decide) ?_
    refine j_norm (lv' := []) (st' := [.int (iI (B i))]) (ws' := [(n0, oX12 0 dp my sm st sz mo ms yb hpk pkr rt rk rx hsh si gt va vn wd wa re ua pkk pxx bp mk bi pl cd rn rch rtn rdp rki rea rby rsh), (st, aI x.g 2400 B)]) [] [0, 1] rfl rfl (by decide) rfl ?_
    exact j_iret jb jr dX12_at_32 ⟨_, rfl, rfl, (by omega)⟩

set_option maxHeartbeats 4000000 in
set_option maxRecDepth 100000 in
theorem C_X12_alter (l : Launch) (g : GG) (n0 my sm st yb pkr rt rk rx si gt va re ua mk rki rea rby : Nat) (th dp sz mo ms hpk hsh vn wd wa pkk pxx bp bi pl cd rn rch rtn rdp rsh : Int) (i b : Int) (B : Int → Int) (hl : 0 ≤ sz ∧ sz ≤ 2400) (hi : inR i) (hb : inR b) : Ctr l g yX12_alter cX12_alter 4 (some .int) 1 30 0 0 [.ref n0, .int (iI i), .int (iI b)] [(n0, oX12 th dp my sm st sz mo ms yb hpk pkr rt rk rx hsh si gt va vn wd wa re ua pkk pxx bp mk bi pl cd rn rch rtn rdp rki rea rby rsh), (st, aI g 2400 B)] (fun vv ww => ∃ (r : Int) (B2 : Int → Int), vv = some (.int (iI r)) ∧ ww = [(n0, oX12 0 dp my sm st sz mo ms yb hpk pkr rt rk rx hsh si gt va vn wd wa re ua pkk pxx bp mk bi pl cd rn rch rtn rdp rki rea rby rsh), (st, aI g 2400 B2)] ∧ ((0 ≤ i ∧ i < sz) ∧ (0 ≤ b ∧ b ≤ 255) → r = B i ∧ B2 = zup B i b) ∧ (¬ ((0 ≤ i ∧ i < sz) ∧ (0 ≤ b ∧ b ≤ 255)) → r = -2 ∧ B2 = B)) := by
  refine Ctr.of [(0, .ref n0), (1, .int (iI i)), (2, .int (iI b))] (by decide) (Nat.le_of_ble_eq_true rfl) rfl ?_
  intro x hxl hxg jb jr hin
  subst hxl; subst hxg
  refine j_aload_n jb dX12_alter_0 0 rfl ?_
  refine j_iconst jb dX12_alter_1 ?_
  refine j_put (ws' := [(n0, oX12 0 dp my sm st sz mo ms yb hpk pkr rt rk rx hsh si gt va vn wd wa re ua pkk pxx bp mk bi pl cd rn rch rtn rdp rki rea rby rsh), (st, aI x.g 2400 B)]) jb f_X12_1 w_X12_0 rfl dX12_alter_2 0 rfl rfl rfl (Nat.le_of_ble_eq_true rfl) rfl ?_
  refine j_iload_n jb dX12_alter_5 1 rfl ?_
  refine j_i2l jb dX12_alter_6 (by omega) ?_
  refine j_lconst (z := 0) jb dX12_alter_7 rfl ?_
  refine j_aload_n jb dX12_alter_8 0 rfl ?_
  refine j_get jb f_X12_69 dX12_alter_9 0 rfl rfl ?_
  refine j_iconst jb dX12_alter_12 ?_
  refine j_isub jb dX12_alter_13 ?_
  refine j_i2l jb dX12_alter_14 (by omega) ?_
  refine j_callS (wr := [(n0, oX12 0 dp my sm st sz mo ms yb hpk pkr rt rk rx hsh si gt va vn wd wa re ua pkk pxx bp mk bi pl cd rn rch rtn rdp rki rea rby rsh), (st, aI x.g 2400 B)]) jb k_X12_in t_X12_in l_X12_72 (C_X12_in x.l x.g i 0 (sz - 1) (by omega) (by omega) (by omega)) [] [0, 1] (by decide) rfl rfl (by decide) (by decide) rfl rfl (Nat.le_of_ble_eq_true rfl) (by decide) dX12_alter_15 (fun v w hp => ?_)
  obtain ⟨rfl, rfl⟩ := hp
  refine j_norm (lv' := [(0, .ref n0), (1, .int (iI i)), (2, .int (iI b))]) (st' := [.int (iI (b2i (0 ≤ i ∧ i ≤ (sz - 1))))]) (ws' := [(n0, oX12 0 dp my sm st sz mo ms yb hpk pkr rt rk rx hsh si gt va vn wd wa re ua pkk pxx bp mk bi pl cd rn rch rtn rdp rki rea rby rsh), (st, aI x.g 2400 B)]) [0, 1, 2] [0, 1] rfl rfl (by decide) rfl ?_
  refine j_ifb_eq (tgt := 33) jb dX12_alter_18 (by decide) (fun c_18 => ?_) (fun c_18 => ?_)
  · skip
    refine j_bipush jb dX12_alter_33 (by decide) ?_
    refine j_norm (lv' := []) (st' := [.int (iI (-2))]) (ws' := [(n0, oX12 0 dp my sm st sz mo ms yb hpk pkr rt rk rx hsh si gt va vn wd wa re ua pkk pxx bp mk bi pl cd rn rch rtn rdp rki rea rby rsh), (st, aI x.g 2400 B)]) [] [0, 1] rfl rfl (by decide) rfl ?_
    exact j_iret jb jr dX12_alter_35 ⟨_, _, rfl, rfl, ⟨fun q => absurd q (by omega), fun _ => ⟨rfl, rfl⟩⟩⟩
  · skip
    refine j_iload_n jb dX12_alter_21 2 rfl ?_
    refine j_i2l jb dX12_alter_22 (by omega) ?_
    refine j_lconst (z := 0) jb dX12_alter_23 rfl ?_
    refine j_ldc2 (z := 255) jb q_X12_200 rfl dX12_alter_24 ?_
    refine j_callS (wr := [(n0, oX12 0 dp my sm st sz mo ms yb hpk pkr rt rk rx hsh si gt va vn wd wa re ua pkk pxx bp mk bi pl cd rn rch rtn rdp rki rea rby rsh), (st, aI x.g 2400 B)]) jb k_X12_in t_X12_in l_X12_72 (C_X12_in x.l x.g b 0 255 (by omega) (by omega) (by omega)) [] [0, 1] (by decide) rfl rfl (by decide) (by decide) rfl rfl (Nat.le_of_ble_eq_true rfl) (by decide) dX12_alter_27 (fun v w hp => ?_)
    obtain ⟨rfl, rfl⟩ := hp
    refine j_norm (lv' := [(0, .ref n0), (1, .int (iI i)), (2, .int (iI b))]) (st' := [.int (iI (b2i (0 ≤ b ∧ b ≤ 255)))]) (ws' := [(n0, oX12 0 dp my sm st sz mo ms yb hpk pkr rt rk rx hsh si gt va vn wd wa re ua pkk pxx bp mk bi pl cd rn rch rtn rdp rki rea rby rsh), (st, aI x.g 2400 B)]) [0, 1, 2] [0, 1] rfl rfl (by decide) rfl ?_
    refine j_ifb_ne (tgt := 36) jb dX12_alter_30 (by decide) (fun c_30 => ?_) (fun c_30 => ?_)
    · skip
      refine j_aload_n jb dX12_alter_36 0 rfl ?_
      refine j_get jb f_X12_23 dX12_alter_37 0 rfl rfl ?_
      refine j_iload_n jb dX12_alter_40 1 rfl ?_
      refine j_iald jb dX12_alter_41 1 rfl (by omega) (by decide) ?_
      refine j_istore_n (lv' := [(3, .int (iI (B i))), (0, .ref n0), (1, .int (iI i)), (2, .int (iI b))]) jb dX12_alter_42 rfl (by decide) rfl ?_
      refine j_aload_n jb dX12_alter_43 1 rfl ?_
      refine j_get jb f_X12_23 dX12_alter_44 0 rfl rfl ?_
      refine j_iload_n jb dX12_alter_47 2 rfl ?_
      refine j_iload_n jb dX12_alter_48 3 rfl ?_
      refine j_iast (ws' := [(n0, oX12 0 dp my sm st sz mo ms yb hpk pkr rt rk rx hsh si gt va vn wd wa re ua pkk pxx bp mk bi pl cd rn rch rtn rdp rki rea rby rsh), (st, aI x.g 2400 (zup B i b))]) jb dX12_alter_49 1 rfl (by omega) (by decide) rfl ?_
      refine j_iload_n jb dX12_alter_50 0 rfl ?_
      refine j_norm (lv' := []) (st' := [.int (iI (B i))]) (ws' := [(n0, oX12 0 dp my sm st sz mo ms yb hpk pkr rt rk rx hsh si gt va vn wd wa re ua pkk pxx bp mk bi pl cd rn rch rtn rdp rki rea rby rsh), (st, aI x.g 2400 (zup B i b))]) [] [0, 1] rfl rfl (by decide) rfl ?_
      exact j_iret jb jr dX12_alter_51 ⟨_, _, rfl, rfl, ⟨fun _ => ⟨rfl, rfl⟩, fun q => absurd q (by omega)⟩⟩
    · skip
      refine j_bipush jb dX12_alter_33 (by decide) ?_
      refine j_norm (lv' := []) (st' := [.int (iI (-2))]) (ws' := [(n0, oX12 0 dp my sm st sz mo ms yb hpk pkr rt rk rx hsh si gt va vn wd wa re ua pkk pxx bp mk bi pl cd rn rch rtn rdp rki rea rby rsh), (st, aI x.g 2400 B)]) [] [0, 1] rfl rfl (by decide) rfl ?_
      exact j_iret jb jr dX12_alter_35 ⟨_, _, rfl, rfl, ⟨fun q => absurd q (by omega), fun _ => ⟨rfl, rfl⟩⟩⟩

set_option maxHeartbeats 4000000 in
set_option maxRecDepth 100000 in
theorem C_X12_add (l : Launch) (g : GG) (n0 my sm st yb pkr rt rk rx si gt va re ua mk rki rea rby : Nat) (th dp sz mo ms hpk hsh vn wd wa pkk pxx bp bi pl cd rn rch rtn rdp rsh : Int) (b : Int) (B : Int → Int) (hl : 0 ≤ sz ∧ sz ≤ 2400) (hb : inR b) : Ctr l g yX12_add cX12_add 2 (some .int) 1 30 0 0 [.ref n0, .int (iI b)] [(n0, oX12 th dp my sm st sz mo ms yb hpk pkr rt rk rx hsh si gt va vn wd wa re ua pkk pxx bp mk bi pl cd rn rch rtn rdp rki rea rby rsh), (st, aI g 2400 B)] (fun vv ww => ∃ (r sz2 : Int) (B2 : Int → Int), vv = some (.int (iI r)) ∧ ww = [(n0, oX12 0 dp my sm st sz2 mo ms yb hpk pkr rt rk rx hsh si gt va vn wd wa re ua pkk pxx bp mk bi pl cd rn rch rtn rdp rki rea rby rsh), (st, aI g 2400 B2)] ∧ (¬ (0 ≤ b ∧ b ≤ 255) → r = -2 ∧ sz2 = sz ∧ B2 = B) ∧ ((0 ≤ b ∧ b ≤ 255) ∧ 2400 ≤ sz → r = -4 ∧ sz2 = sz ∧ B2 = B) ∧ ((0 ≤ b ∧ b ≤ 255) ∧ sz < 2400 → r = sz + 1 ∧ sz2 = sz + 1 ∧ B2 = zup B sz b)) := by
  refine Ctr.of [(0, .ref n0), (1, .int (iI b))] (by decide) (Nat.le_of_ble_eq_true rfl) rfl ?_
  intro x hxl hxg jb jr hin
  subst hxl; subst hxg
  refine j_aload_n jb dX12_add_0 0 rfl ?_
  refine j_iconst jb dX12_add_1 ?_
  refine j_put (ws' := [(n0, oX12 0 dp my sm st sz mo ms yb hpk pkr rt rk rx hsh si gt va vn wd wa re ua pkk pxx bp mk bi pl cd rn rch rtn rdp rki rea rby rsh), (st, aI x.g 2400 B)]) jb f_X12_1 w_X12_0 rfl dX12_add_2 0 rfl rfl rfl (Nat.le_of_ble_eq_true rfl) rfl ?_
  refine j_iload_n jb dX12_add_5 1 rfl ?_
  refine j_i2l jb dX12_add_6 (by omega) ?_
  refine j_lconst (z := 0) jb dX12_add_7 rfl ?_
  refine j_ldc2 (z := 255) jb q_X12_200 rfl dX12_add_8 ?_
  refine j_callS (wr := [(n0, oX12 0 dp my sm st sz mo ms yb hpk pkr rt rk rx hsh si gt va vn wd wa re ua pkk pxx bp mk bi pl cd rn rch rtn rdp rki rea rby rsh), (st, aI x.g 2400 B)]) jb k_X12_in t_X12_in l_X12_72 (C_X12_in x.l x.g b 0 255 (by omega) (by omega) (by omega)) [] [0, 1] (by decide) rfl rfl (by decide) (by decide) rfl rfl (Nat.le_of_ble_eq_true rfl) (by decide) dX12_add_11 (fun v w hp => ?_)
  obtain ⟨rfl, rfl⟩ := hp
  refine j_norm (lv' := [(0, .ref n0), (1, .int (iI b))]) (st' := [.int (iI (b2i (0 ≤ b ∧ b ≤ 255)))]) (ws' := [(n0, oX12 0 dp my sm st sz mo ms yb hpk pkr rt rk rx hsh si gt va vn wd wa re ua pkk pxx bp mk bi pl cd rn rch rtn rdp rki rea rby rsh), (st, aI x.g 2400 B)]) [0, 1] [0, 1] rfl rfl (by decide) rfl ?_
  refine j_ifb_ne (tgt := 20) jb dX12_add_14 (by decide) (fun c_14 => ?_) (fun c_14 => ?_)
  · skip
    refine j_aload_n jb dX12_add_20 0 rfl ?_
    refine j_get jb f_X12_69 dX12_add_21 0 rfl rfl ?_
    refine j_sipush jb dX12_add_24 (by decide) ?_
    refine j_icmp_ne (tgt := 33) jb dX12_add_27 (by decide) (by omega) (by omega) (fun c_27 => ?_) (fun c_27 => ?_)
    · skip
      refine j_aload_n jb dX12_add_33 0 rfl ?_
      refine j_get jb f_X12_23 dX12_add_34 0 rfl rfl ?_
      refine j_aload_n jb dX12_add_37 0 rfl ?_
      refine j_get jb f_X12_69 dX12_add_38 0 rfl rfl ?_
      refine j_iload_n jb dX12_add_41 1 rfl ?_
      refine j_iast (ws' := [(n0, oX12 0 dp my sm st sz mo ms yb hpk pkr rt rk rx hsh si gt va vn wd wa re ua pkk pxx bp mk bi pl cd rn rch rtn rdp rki rea rby rsh), (st, aI x.g 2400 (zup B sz b))]) jb dX12_add_42 1 rfl (by omega) (by decide) rfl ?_
      refine j_aload_n jb dX12_add_43 0 rfl ?_
      refine j_dup jb dX12_add_44 rfl ?_
      refine j_get jb f_X12_69 dX12_add_45 0 rfl rfl ?_
      refine j_iconst jb dX12_add_48 ?_
      refine j_iadd jb dX12_add_49 ?_
      refine j_put (ws' := [(n0, oX12 0 dp my sm st (sz + 1) mo ms yb hpk pkr rt rk rx hsh si gt va vn wd wa re ua pkk pxx bp mk bi pl cd rn rch rtn rdp rki rea rby rsh), (st, aI x.g 2400 (zup B sz b))]) jb f_X12_69 w_X12_5 rfl dX12_add_50 0 rfl rfl rfl (Nat.le_of_ble_eq_true rfl) rfl ?_
      refine j_aload_n jb dX12_add_53 0 rfl ?_
      refine j_get jb f_X12_69 dX12_add_54 0 rfl rfl ?_
      refine j_norm (lv' := []) (st' := [.int (iI (sz + 1))]) (ws' := [(n0, oX12 0 dp my sm st (sz + 1) mo ms yb hpk pkr rt rk rx hsh si gt va vn wd wa re ua pkk pxx bp mk bi pl cd rn rch rtn rdp rki rea rby rsh), (st, aI x.g 2400 (zup B sz b))]) [] [0, 1] rfl rfl (by decide) rfl ?_
      exact j_iret jb jr dX12_add_57 ⟨_, _, _, rfl, rfl, ⟨fun q => absurd q (by omega), fun q => absurd q (by omega), fun _ => ⟨rfl, rfl, rfl⟩⟩⟩
    · skip
      refine j_bipush jb dX12_add_30 (by decide) ?_
      refine j_norm (lv' := []) (st' := [.int (iI (-4))]) (ws' := [(n0, oX12 0 dp my sm st sz mo ms yb hpk pkr rt rk rx hsh si gt va vn wd wa re ua pkk pxx bp mk bi pl cd rn rch rtn rdp rki rea rby rsh), (st, aI x.g 2400 B)]) [] [0, 1] rfl rfl (by decide) rfl ?_
      exact j_iret jb jr dX12_add_32 ⟨_, _, _, rfl, rfl, ⟨fun q => absurd q (by omega), fun _ => ⟨rfl, rfl, rfl⟩, fun q => absurd q (by omega)⟩⟩
  · skip
    refine j_bipush jb dX12_add_17 (by decide) ?_
    refine j_norm (lv' := []) (st' := [.int (iI (-2))]) (ws' := [(n0, oX12 0 dp my sm st sz mo ms yb hpk pkr rt rk rx hsh si gt va vn wd wa re ua pkk pxx bp mk bi pl cd rn rch rtn rdp rki rea rby rsh), (st, aI x.g 2400 B)]) [] [0, 1] rfl rfl (by decide) rfl ?_
    exact j_iret jb jr dX12_add_19 ⟨_, _, _, rfl, rfl, ⟨fun _ => ⟨rfl, rfl, rfl⟩, fun q => absurd q (by omega), fun q => absurd q (by omega)⟩⟩

set_option maxHeartbeats 4000000 in
set_option maxRecDepth 100000 in
theorem C_X12_cut (l : Launch) (g : GG) (n0 my sm st yb pkr rt rk rx si gt va re ua mk rki rea rby : Nat) (th dp sz mo ms hpk hsh vn wd wa pkk pxx bp bi pl cd rn rch rtn rdp rsh : Int) (n : Int) (hl : 0 ≤ sz ∧ sz ≤ 2400) (hn : inR n) : Ctr l g yX12_cut cX12_cut 3 (some .int) 1 30 0 0 [.ref n0, .int (iI n)] [(n0, oX12 th dp my sm st sz mo ms yb hpk pkr rt rk rx hsh si gt va vn wd wa re ua pkk pxx bp mk bi pl cd rn rch rtn rdp rki rea rby rsh)] (fun vv ww => ∃ (r sz2 : Int), vv = some (.int (iI r)) ∧ ww = [(n0, oX12 0 dp my sm st sz2 mo ms yb hpk pkr rt rk rx hsh si gt va vn wd wa re ua pkk pxx bp mk bi pl cd rn rch rtn rdp rki rea rby rsh)] ∧ (¬ (0 ≤ n ∧ n ≤ sz) → r = -2 ∧ sz2 = sz) ∧ ((0 ≤ n ∧ n ≤ sz) → r = sz - n ∧ sz2 = n)) := by
  refine Ctr.of [(0, .ref n0), (1, .int (iI n))] (by decide) (Nat.le_of_ble_eq_true rfl) rfl ?_
  intro x hxl hxg jb jr hin
  subst hxl; subst hxg
  refine j_aload_n jb dX12_cut_0 0 rfl ?_
  refine j_iconst jb dX12_cut_1 ?_
  refine j_put (ws' := [(n0, oX12 0 dp my sm st sz mo ms yb hpk pkr rt rk rx hsh si gt va vn wd wa re ua pkk pxx bp mk bi pl cd rn rch rtn rdp rki rea rby rsh)]) jb f_X12_1 w_X12_0 rfl dX12_cut_2 0 rfl rfl rfl (Nat.le_of_ble_eq_true rfl) rfl ?_
  refine j_iload_n jb dX12_cut_5 1 rfl ?_
  refine j_i2l jb dX12_cut_6 (by omega) ?_
  refine j_lconst (z := 0) jb dX12_cut_7 rfl ?_
  refine j_aload_n jb dX12_cut_8 0 rfl ?_
  refine j_get jb f_X12_69 dX12_cut_9 0 rfl rfl ?_
  refine j_i2l jb dX12_cut_12 (by omega) ?_
  refine j_callS (wr := [(n0, oX12 0 dp my sm st sz mo ms yb hpk pkr rt rk rx hsh si gt va vn wd wa re ua pkk pxx bp mk bi pl cd rn rch rtn rdp rki rea rby rsh)]) jb k_X12_in t_X12_in l_X12_72 (C_X12_in x.l x.g n 0 sz (by omega) (by omega) (by omega)) [] [0] (by decide) rfl rfl (by decide) (by decide) rfl rfl (Nat.le_of_ble_eq_true rfl) (by decide) dX12_cut_13 (fun v w hp => ?_)
  obtain ⟨rfl, rfl⟩ := hp
  refine j_norm (lv' := [(0, .ref n0), (1, .int (iI n))]) (st' := [.int (iI (b2i (0 ≤ n ∧ n ≤ sz)))]) (ws' := [(n0, oX12 0 dp my sm st sz mo ms yb hpk pkr rt rk rx hsh si gt va vn wd wa re ua pkk pxx bp mk bi pl cd rn rch rtn rdp rki rea rby rsh)]) [0, 1] [0] rfl rfl (by decide) rfl ?_
  refine j_ifb_ne (tgt := 22) jb dX12_cut_16 (by decide) (fun c_16 => ?_) (fun c_16 => ?_)
  · skip
    refine j_aload_n jb dX12_cut_22 0 rfl ?_
    refine j_get jb f_X12_69 dX12_cut_23 0 rfl rfl ?_
    refine j_iload_n jb dX12_cut_26 1 rfl ?_
    refine j_isub jb dX12_cut_27 ?_
    refine j_istore_n (lv' := [(2, .int (iI (sz - n))), (0, .ref n0), (1, .int (iI n))]) jb dX12_cut_28 rfl (by decide) rfl ?_
    refine j_aload_n jb dX12_cut_29 1 rfl ?_
    refine j_iload_n jb dX12_cut_30 2 rfl ?_
    refine j_put (ws' := [(n0, oX12 0 dp my sm st n mo ms yb hpk pkr rt rk rx hsh si gt va vn wd wa re ua pkk pxx bp mk bi pl cd rn rch rtn rdp rki rea rby rsh)]) jb f_X12_69 w_X12_5 rfl dX12_cut_31 0 rfl rfl rfl (Nat.le_of_ble_eq_true rfl) rfl ?_
    refine j_iload_n jb dX12_cut_34 0 rfl ?_
    refine j_norm (lv' := []) (st' := [.int (iI (sz - n))]) (ws' := [(n0, oX12 0 dp my sm st n mo ms yb hpk pkr rt rk rx hsh si gt va vn wd wa re ua pkk pxx bp mk bi pl cd rn rch rtn rdp rki rea rby rsh)]) [] [0] rfl rfl (by decide) rfl ?_
    exact j_iret jb jr dX12_cut_35 ⟨_, _, rfl, rfl, (by omega)⟩
  · skip
    refine j_bipush jb dX12_cut_19 (by decide) ?_
    refine j_norm (lv' := []) (st' := [.int (iI (-2))]) (ws' := [(n0, oX12 0 dp my sm st sz mo ms yb hpk pkr rt rk rx hsh si gt va vn wd wa re ua pkk pxx bp mk bi pl cd rn rch rtn rdp rki rea rby rsh)]) [] [0] rfl rfl (by decide) rfl ?_
    exact j_iret jb jr dX12_cut_21 ⟨_, _, rfl, rfl, (by omega)⟩

set_option maxHeartbeats 4000000 in
set_option maxRecDepth 100000 in
theorem C_X12_told (l : Launch) (g : GG) (n0 my sm st yb pkr rt rk rx si gt va re ua mk rki rea rby : Nat) (th dp sz mo ms hpk hsh vn wd wa pkk pxx bp bi pl cd rn rch rtn rdp rsh : Int) (wh : Int) (pp : Int → Int) (hw : inR wh) (hh : 0 ≤ hpk ∧ hpk ≤ 1) : Ctr l g yX12_told cX12_told 2 (some .int) 1 30 0 0 [.ref n0, .int (iI wh)] [(n0, oX12 th dp my sm st sz mo ms yb hpk pkr rt rk rx hsh si gt va vn wd wa re ua pkk pxx bp mk bi pl cd rn rch rtn rdp rki rea rby rsh), (pkr, aI g 5 pp)] (fun vv ww => ∃ (r : Int), vv = some (.int (iI r)) ∧ ww = [(n0, oX12 0 dp my sm st sz mo ms yb hpk pkr rt rk rx hsh si gt va vn wd wa re ua pkk pxx bp mk bi pl cd rn rch rtn rdp rki rea rby rsh), (pkr, aI g 5 pp)] ∧ (¬ (0 ≤ wh ∧ wh ≤ 4) → r = -2) ∧ ((0 ≤ wh ∧ wh ≤ 4) ∧ hpk = 0 → r = -3) ∧ ((0 ≤ wh ∧ wh ≤ 4) ∧ ¬ hpk = 0 → r = pp wh)) := by
  refine Ctr.of [(0, .ref n0), (1, .int (iI wh))] (by decide) (Nat.le_of_ble_eq_true rfl) rfl ?_
  intro x hxl hxg jb jr hin
  subst hxl; subst hxg
  refine j_aload_n jb dX12_told_0 0 rfl ?_
  refine j_iconst jb dX12_told_1 ?_
  refine j_put (ws' := [(n0, oX12 0 dp my sm st sz mo ms yb hpk pkr rt rk rx hsh si gt va vn wd wa re ua pkk pxx bp mk bi pl cd rn rch rtn rdp rki rea rby rsh), (pkr, aI x.g 5 pp)]) jb f_X12_1 w_X12_0 rfl dX12_told_2 0 rfl rfl rfl (Nat.le_of_ble_eq_true rfl) rfl ?_
  refine j_iload_n jb dX12_told_5 1 rfl ?_
  refine j_i2l jb dX12_told_6 (by omega) ?_
  refine j_lconst (z := 0) jb dX12_told_7 rfl ?_
  refine j_ldc2 (z := 4) jb q_X12_82 rfl dX12_told_8 ?_
  refine j_callS (wr := [(n0, oX12 0 dp my sm st sz mo ms yb hpk pkr rt rk rx hsh si gt va vn wd wa re ua pkk pxx bp mk bi pl cd rn rch rtn rdp rki rea rby rsh), (pkr, aI x.g 5 pp)]) jb k_X12_in t_X12_in l_X12_72 (C_X12_in x.l x.g wh 0 4 (by omega) (by omega) (by omega)) [] [0, 1] (by decide) rfl rfl (by decide) (by decide) rfl rfl (Nat.le_of_ble_eq_true rfl) (by decide) dX12_told_11 (fun v w hp => ?_)
  obtain ⟨rfl, rfl⟩ := hp
  refine j_norm (lv' := [(0, .ref n0), (1, .int (iI wh))]) (st' := [.int (iI (b2i (0 ≤ wh ∧ wh ≤ 4)))]) (ws' := [(n0, oX12 0 dp my sm st sz mo ms yb hpk pkr rt rk rx hsh si gt va vn wd wa re ua pkk pxx bp mk bi pl cd rn rch rtn rdp rki rea rby rsh), (pkr, aI x.g 5 pp)]) [0, 1] [0, 1] rfl rfl (by decide) rfl ?_
  refine j_ifb_ne (tgt := 22) jb dX12_told_14 (by decide) (fun c_14 => ?_) (fun c_14 => ?_)
  · skip
    refine j_aload_n jb dX12_told_22 0 rfl ?_
    refine j_get jb f_X12_184 dX12_told_23 0 rfl rfl ?_
    refine j_if_eq (tgt := 38) jb dX12_told_26 (by decide) (by omega) (fun c_26 => ?_) (fun c_26 => ?_)
    · skip
      refine j_bipush jb dX12_told_38 (by decide) ?_
      refine j_norm (lv' := []) (st' := [.int (iI (-3))]) (ws' := [(n0, oX12 0 dp my sm st sz mo ms yb hpk pkr rt rk rx hsh si gt va vn wd wa re ua pkk pxx bp mk bi pl cd rn rch rtn rdp rki rea rby rsh), (pkr, aI x.g 5 pp)]) [] [0, 1] rfl rfl (by decide) rfl ?_
      exact j_iret jb jr dX12_told_40 ⟨_, rfl, rfl, (by omega)⟩
    · skip
      refine j_aload_n jb dX12_told_29 0 rfl ?_
      refine j_get jb f_X12_29 dX12_told_30 0 rfl rfl ?_
      refine j_iload_n jb dX12_told_33 1 rfl ?_
      refine j_iald jb dX12_told_34 1 rfl (by omega) (by decide) ?_
      refine j_goto (tgt := 40) jb dX12_told_35 (by decide) ?_
      refine j_norm (lv' := []) (st' := [.int (iI (pp wh))]) (ws' := [(n0, oX12 0 dp my sm st sz mo ms yb hpk pkr rt rk rx hsh si gt va vn wd wa re ua pkk pxx bp mk bi pl cd rn rch rtn rdp rki rea rby rsh), (pkr, aI x.g 5 pp)]) [] [0, 1] rfl rfl (by decide) rfl ?_
      exact j_iret jb jr dX12_told_40 ⟨_, rfl, rfl, (by omega)⟩
  · skip
    refine j_bipush jb dX12_told_17 (by decide) ?_
    refine j_goto (tgt := 40) jb dX12_told_19 (by decide) ?_
    refine j_norm (lv' := []) (st' := [.int (iI (-2))]) (ws' := [(n0, oX12 0 dp my sm st sz mo ms yb hpk pkr rt rk rx hsh si gt va vn wd wa re ua pkk pxx bp mk bi pl cd rn rch rtn rdp rki rea rby rsh), (pkr, aI x.g 5 pp)]) [] [0, 1] rfl rfl (by decide) rfl ?_
    exact j_iret jb jr dX12_told_40 ⟨_, rfl, rfl, (by omega)⟩

set_option maxHeartbeats 4000000 in
set_option maxRecDepth 100000 in
theorem C_X12_row (l : Launch) (g : GG) (n0 my sm st yb pkr rt rk rx si gt va re ua mk rki rea rby : Nat) (th dp sz mo ms hpk hsh vn wd wa pkk pxx bp bi pl cd rn rch rtn rdp rsh : Int) (q wh : Int) (pp tt kk xk : Int → Int) (hr : inR q) (hw : inR wh) (hh : 0 ≤ hpk ∧ hpk ≤ 1) (hpp : inR (pp 1)) (hp0 : -1 ≤ tt 3 ∧ tt 3 ≤ 4) (hp1 : -1 ≤ tt 7 ∧ tt 7 ≤ 4) : Ctr l g yX12_row cX12_row 6 (some .int) 1 30 0 0 [.ref n0, .int (iI q), .int (iI wh)] [(n0, oX12 th dp my sm st sz mo ms yb hpk pkr rt rk rx hsh si gt va vn wd wa re ua pkk pxx bp mk bi pl cd rn rch rtn rdp rki rea rby rsh), (pkr, aI g 5 pp), (rt, aI g 8 tt), (rk, aI g 32 kk), (rx, aI g 32 xk)] (fun vv ww => ∃ (r : Int), vv = some (.int (iI r)) ∧ ww = [(n0, oX12 0 dp my sm st sz mo ms yb hpk pkr rt rk rx hsh si gt va vn wd wa re ua pkk pxx bp mk bi pl cd rn rch rtn rdp rki rea rby rsh), (pkr, aI g 5 pp), (rt, aI g 8 tt), (rk, aI g 32 kk), (rx, aI g 32 xk)] ∧ ((¬ (0 ≤ q ∧ q < 2) ∨ ¬ (((10 ≤ wh ∧ wh < 26) ∨ (30 ≤ wh ∧ wh < 46)) ∨ (0 ≤ wh ∧ wh ≤ 3))) → r = -2) ∧ (¬ (¬ (0 ≤ q ∧ q < 2) ∨ ¬ (((10 ≤ wh ∧ wh < 26) ∨ (30 ≤ wh ∧ wh < 46)) ∨ (0 ≤ wh ∧ wh ≤ 3))) ∧ hpk = 0 → r = -3) ∧ (¬ (¬ (0 ≤ q ∧ q < 2) ∨ ¬ (((10 ≤ wh ∧ wh < 26) ∨ (30 ≤ wh ∧ wh < 46)) ∨ (0 ≤ wh ∧ wh ≤ 3))) ∧ ¬ hpk = 0 ∧ pp 1 ≤ q → r = -2) ∧ (¬ (¬ (0 ≤ q ∧ q < 2) ∨ ¬ (((10 ≤ wh ∧ wh < 26) ∨ (30 ≤ wh ∧ wh < 46)) ∨ (0 ≤ wh ∧ wh ≤ 3))) ∧ ¬ hpk = 0 ∧ q < pp 1 → r = rowV (tt (4 * q)) (tt (4 * q + 1)) (tt (4 * q + 2)) (tt (4 * q + 3)) (fun j => kk (16 * q + j)) (fun j => xk (16 * q + j)) wh)) := by
  refine Ctr.of [(0, .ref n0), (1, .int (iI q)), (2, .int (iI wh))] (by decide) (Nat.le_of_ble_eq_true rfl) rfl ?_
  intro x hxl hxg jb jr hin
  subst hxl; subst hxg
  refine j_aload_n jb dX12_row_0 0 rfl ?_
  refine j_iconst jb dX12_row_1 ?_
  refine j_put (ws' := [(n0, oX12 0 dp my sm st sz mo ms yb hpk pkr rt rk rx hsh si gt va vn wd wa re ua pkk pxx bp mk bi pl cd rn rch rtn rdp rki rea rby rsh), (pkr, aI x.g 5 pp), (rt, aI x.g 8 tt), (rk, aI x.g 32 kk), (rx, aI x.g 32 xk)]) jb f_X12_1 w_X12_0 rfl dX12_row_2 0 rfl rfl rfl (Nat.le_of_ble_eq_true rfl) rfl ?_
  refine j_iload_n jb dX12_row_5 2 rfl ?_
  refine j_i2l jb dX12_row_6 (by omega) ?_
  refine j_ldc2 (z := 10) jb q_X12_192 rfl dX12_row_7 ?_
  refine j_ldc2 (z := 25) jb q_X12_194 rfl dX12_row_10 ?_
  refine j_callS (wr := [(n0, oX12 0 dp my sm st sz mo ms yb hpk pkr rt rk rx hsh si gt va vn wd wa re ua pkk pxx bp mk bi pl cd rn rch rtn rdp rki rea rby rsh), (pkr, aI x.g 5 pp), (rt, aI x.g 8 tt), (rk, aI x.g 32 kk), (rx, aI x.g 32 xk)]) jb k_X12_in t_X12_in l_X12_72 (C_X12_in x.l x.g wh 10 25 (by omega) (by omega) (by omega)) [] [0, 1, 2, 3, 4] (by decide) rfl rfl (by decide) (by decide) rfl rfl (Nat.le_of_ble_eq_true rfl) (by decide) dX12_row_13 (fun v w hp => ?_)
  obtain ⟨rfl, rfl⟩ := hp
  refine j_norm (lv' := [(0, .ref n0), (1, .int (iI q)), (2, .int (iI wh))]) (st' := [.int (iI (b2i (10 ≤ wh ∧ wh ≤ 25)))]) (ws' := [(n0, oX12 0 dp my sm st sz mo ms yb hpk pkr rt rk rx hsh si gt va vn wd wa re ua pkk pxx bp mk bi pl cd rn rch rtn rdp rki rea rby rsh), (pkr, aI x.g 5 pp), (rt, aI x.g 8 tt), (rk, aI x.g 32 kk), (rx, aI x.g 32 xk)]) [0, 1, 2] [0, 1, 2, 3, 4] rfl rfl (by decide) rfl ?_
  have J38 : ∀ (fl : Int), ((fl = 1 ∧ ((10 ≤ wh ∧ wh < 26) ∨ (30 ≤ wh ∧ wh < 46))) ∨ (fl = 0 ∧ ¬ ((10 ≤ wh ∧ wh < 26) ∨ (30 ≤ wh ∧ wh < 46)))) → JW x 0 0 38 [(0, .ref n0), (1, .int (iI q)), (2, .int (iI wh))] [.int (iI fl)] [(n0, oX12 0 dp my sm st sz mo ms yb hpk pkr rt rk rx hsh si gt va vn wd wa re ua pkk pxx bp mk bi pl cd rn rch rtn rdp rki rea rby rsh), (pkr, aI x.g 5 pp), (rt, aI x.g 8 tt), (rk, aI x.g 32 kk), (rx, aI x.g 32 xk)] := by
    intro fl hfl
    refine j_istore_n (lv' := [(3, .int (iI fl)), (0, .ref n0), (1, .int (iI q)), (2, .int (iI wh))]) jb dX12_row_38 rfl (by decide) rfl ?_
    refine j_iload_n jb dX12_row_39 2 rfl ?_
    refine j_i2l jb dX12_row_40 (by omega) ?_
    refine j_lconst (z := 0) jb dX12_row_41 rfl ?_
    refine j_lconst (z := 1) jb dX12_row_42 rfl ?_
    refine j_callS (wr := [(n0, oX12 0 dp my sm st sz mo ms yb hpk pkr rt rk rx hsh si gt va vn wd wa re ua pkk pxx bp mk bi pl cd rn rch rtn rdp rki rea rby rsh), (pkr, aI x.g 5 pp), (rt, aI x.g 8 tt), (rk, aI x.g 32 kk), (rx, aI x.g 32 xk)]) jb k_X12_in t_X12_in l_X12_72 (C_X12_in x.l x.g q 0 1 (by omega) (by omega) (by omega)) [] [0, 1, 2, 3, 4] (by decide) rfl rfl (by decide) (by decide) rfl rfl (Nat.le_of_ble_eq_true rfl) (by decide) dX12_row_43 (fun v w hp => ?_)
    obtain ⟨rfl, rfl⟩ := hp
    refine j_norm (lv' := [(3, .int (iI fl)), (0, .ref n0), (1, .int (iI q)), (2, .int (iI wh))]) (st' := [.int (iI (b2i (0 ≤ q ∧ q ≤ 1)))]) (ws' := [(n0, oX12 0 dp my sm st sz mo ms yb hpk pkr rt rk rx hsh si gt va vn wd wa re ua pkk pxx bp mk bi pl cd rn rch rtn rdp rki rea rby rsh), (pkr, aI x.g 5 pp), (rt, aI x.g 8 tt), (rk, aI x.g 32 kk), (rx, aI x.g 32 xk)]) [0, 1, 2, 3] [0, 1, 2, 3, 4] rfl rfl (by decide) rfl ?_
    refine j_ifb_eq (tgt := 65) jb dX12_row_46 (by decide) (fun c_46 => ?_) (fun c_46 => ?_)
    · skip
      refine j_bipush jb dX12_row_65 (by decide) ?_
      refine j_norm (lv' := []) (st' := [.int (iI (-2))]) (ws' := [(n0, oX12 0 dp my sm st sz mo ms yb hpk pkr rt rk rx hsh si gt va vn wd wa re ua pkk pxx bp mk bi pl cd rn rch rtn rdp rki rea rby rsh), (pkr, aI x.g 5 pp), (rt, aI x.g 8 tt), (rk, aI x.g 32 kk), (rx, aI x.g 32 xk)]) [] [0, 1, 2, 3, 4] rfl rfl (by decide) rfl ?_
      exact j_iret jb jr dX12_row_67 ⟨_, rfl, rfl, (by omega)⟩
    · skip
      refine j_iload_n jb dX12_row_49 3 rfl ?_
      refine j_i2l jb dX12_row_50 (by omega) ?_
      refine j_lconst (z := 0) jb dX12_row_51 rfl ?_
      refine j_ldc2 (z := 3) jb q_X12_103 rfl dX12_row_52 ?_
      refine j_callS (wr := [(n0, oX12 0 dp my sm st sz mo ms yb hpk pkr rt rk rx hsh si gt va vn wd wa re ua pkk pxx bp mk bi pl cd rn rch rtn rdp rki rea rby rsh), (pkr, aI x.g 5 pp), (rt, aI x.g 8 tt), (rk, aI x.g 32 kk), (rx, aI x.g 32 xk)]) jb k_X12_in t_X12_in l_X12_72 (C_X12_in x.l x.g wh 0 3 (by omega) (by omega) (by omega)) [] [0, 1, 2, 3, 4] (by decide) rfl rfl (by decide) (by decide) rfl rfl (Nat.le_of_ble_eq_true rfl) (by decide) dX12_row_55 (fun v w hp => ?_)
      obtain ⟨rfl, rfl⟩ := hp
      refine j_norm (lv' := [(3, .int (iI fl)), (0, .ref n0), (1, .int (iI q)), (2, .int (iI wh))]) (st' := [.int (iI (b2i (0 ≤ wh ∧ wh ≤ 3)))]) (ws' := [(n0, oX12 0 dp my sm st sz mo ms yb hpk pkr rt rk rx hsh si gt va vn wd wa re ua pkk pxx bp mk bi pl cd rn rch rtn rdp rki rea rby rsh), (pkr, aI x.g 5 pp), (rt, aI x.g 8 tt), (rk, aI x.g 32 kk), (rx, aI x.g 32 xk)]) [0, 1, 2, 3] [0, 1, 2, 3, 4] rfl rfl (by decide) rfl ?_
      refine j_ifb_ne (tgt := 68) jb dX12_row_58 (by decide) (fun c_58 => ?_) (fun c_58 => ?_)
      · skip
        refine j_aload_n jb dX12_row_68 1 rfl ?_
        refine j_get jb f_X12_184 dX12_row_69 0 rfl rfl ?_
        refine j_if_ne (tgt := 78) jb dX12_row_72 (by decide) (by omega) (fun c_72 => ?_) (fun c_72 => ?_)
        · skip
          have hnb : ¬ (¬ (0 ≤ q ∧ q < 2) ∨ ¬ (((10 ≤ wh ∧ wh < 26) ∨ (30 ≤ wh ∧ wh < 46)) ∨ (0 ≤ wh ∧ wh ≤ 3))) := by omega
          refine j_iload_n jb dX12_row_78 2 rfl ?_
          refine j_aload_n jb dX12_row_79 1 rfl ?_
          refine j_get jb f_X12_29 dX12_row_80 0 rfl rfl ?_
          refine j_iconst jb dX12_row_83 ?_
          refine j_iald jb dX12_row_84 1 rfl (by omega) (by decide) ?_
          refine j_icmp_lt (tgt := 91) jb dX12_row_85 (by decide) (by omega) (by omega) (fun c_85 => ?_) (fun c_85 => ?_)
          · skip
            refine j_iload_n jb dX12_row_91 3 rfl ?_
            refine j_iconst jb dX12_row_92 ?_
            refine j_icmp_ge (tgt := 107) jb dX12_row_93 (by decide) (by omega) (by omega) (fun c_93 => ?_) (fun c_93 => ?_)
            · skip
              have htt : -1 ≤ tt (4 * q + 3) ∧ tt (4 * q + 3) ≤ 4 := by (rcases (show q = 0 ∨ q = 1 by omega) with e | e <;> (rw [e]; first | exact hp0 | exact hp1))
              have hcp := cparts_in htt
              refine j_aload_n jb dX12_row_107 1 rfl ?_
              refine j_get jb f_X12_32 dX12_row_108 0 rfl rfl ?_
              refine j_iconst jb dX12_row_111 ?_
              refine j_iload_n jb dX12_row_112 2 rfl ?_
              refine j_imul jb dX12_row_113 ?_
              refine j_iconst jb dX12_row_114 ?_
              refine j_iadd jb dX12_row_115 ?_
              refine j_iald jb dX12_row_116 2 rfl (by omega) (by decide) ?_
              refine j_istore (lv' := [(4, .int (iI (tt ((4 * q) + 3)))), (3, .int (iI fl)), (0, .ref n0), (1, .int (iI q)), (2, .int (iI wh))]) jb dX12_row_117 (by decide) rfl ?_
              refine j_iload_n jb dX12_row_119 4 rfl ?_
              refine j_bipush jb dX12_row_120 (by decide) ?_
              have J136 : ∀ (j9 : Int), ((wh < 30 ∧ j9 = wh - 10) ∨ (30 ≤ wh ∧ j9 = wh - 30)) → JW x 0 0 136 [(0, .ref n0), (1, .int (iI q)), (2, .int (iI wh)), (3, .int (iI fl)), (4, .int (iI (tt ((4 * q) + 3))))] [.int (iI j9)] [(n0, oX12 0 dp my sm st sz mo ms yb hpk pkr rt rk rx hsh si gt va vn wd wa re ua pkk pxx bp mk bi pl cd rn rch rtn rdp rki rea rby rsh), (pkr, aI x.g 5 pp), (rt, aI x.g 8 tt), (rk, aI x.g 32 kk), (rx, aI x.g 32 xk)] := by
                intro j9 hj9
                refine j_istore (lv' := [(5, .int (iI j9)), (0, .ref n0), (1, .int (iI q)), (2, .int (iI wh)), (3, .int (iI fl)), (4, .int (iI (tt ((4 * q) + 3))))]) jb dX12_row_136 (by decide) rfl ?_
                refine j_iload jb dX12_row_138 5 rfl ?_
                refine j_iconst jb dX12_row_140 ?_
                refine j_icmp_eq (tgt := 153) jb dX12_row_141 (by decide) (by omega) (by omega) (fun c_141 => ?_) (fun c_141 => ?_)
                · skip
                  refine j_bipush jb dX12_row_153 (by decide) ?_
                  refine j_goto (tgt := 191) jb dX12_row_155 (by decide) ?_
                  refine j_geni (fun r9 e_r9 => ?_)
                  refine j_norm (lv' := []) (st' := [.int (iI r9)]) (ws' := [(n0, oX12 0 dp my sm st sz mo ms yb hpk pkr rt rk rx hsh si gt va vn wd wa re ua pkk pxx bp mk bi pl cd rn rch rtn rdp rki rea rby rsh), (pkr, aI x.g 5 pp), (rt, aI x.g 8 tt), (rk, aI x.g 32 kk), (rx, aI x.g 32 xk)]) [] [0, 1, 2, 3, 4] rfl rfl (by decide) rfl ?_
                  exact j_iret jb jr dX12_row_191 ⟨_, rfl, rfl, (by have zz : r9 = rowV (tt (4 * q)) (tt (4 * q + 1)) (tt (4 * q + 2)) (tt (4 * q + 3)) (fun j => kk (16 * q + j)) (fun j => xk (16 * q + j)) wh := (by rw [e_r9]; unfold rowV; rw [if_neg (by omega), if_neg (by omega), if_neg (by omega), if_neg (by omega)]; rcases hj9 with hj | hj <;> (first | (rw [if_pos (by omega), if_pos (by unfold cparts; rw [if_pos c_141]; omega)]; done) | (rw [if_neg (by omega), if_pos (by unfold cparts; rw [if_pos c_141]; omega)]; done) | (rw [if_pos (by omega), if_pos (by omega)]; done) | (rw [if_neg (by omega), if_pos (by omega)]; done) | (rw [if_pos (by omega), if_neg (by omega)]; congr 1; omega) | (rw [if_neg (by omega), if_neg (by omega)]; congr 1; omega))); exact ⟨fun z => absurd z hnb, fun z => absurd z.2 (by omega), fun z => absurd z.2.2 (by omega), fun _ => zz⟩)⟩
                · skip
                  have hcq : cparts (tt (4 * q + 3)) = 2 ^ (tt (4 * q + 3)).toNat := if_neg c_141
                  refine j_iload jb dX12_row_144 0 rfl ?_
                  refine j_iconst jb dX12_row_146 ?_
                  refine j_iload jb dX12_row_147 5 rfl ?_
                  refine j_ishl jb dX12_row_149 (by omega) ?_
                  refine j_topi (2 ^ (tt (4 * q + 3)).toNat) (Int.one_mul _) ?_
                  refine j_icmp_lt (tgt := 158) jb dX12_row_150 (by decide) (by omega) (by omega) (fun c_150 => ?_) (fun c_150 => ?_)
                  · skip
                    refine j_iload_n jb dX12_row_158 3 rfl ?_
                    refine j_bipush jb dX12_row_159 (by decide) ?_
                    refine j_icmp_ge (tgt := 179) jb dX12_row_161 (by decide) (by omega) (by omega) (fun c_161 => ?_) (fun c_161 => ?_)
                    · skip
                      refine j_aload_n jb dX12_row_179 1 rfl ?_
                      refine j_get jb f_X12_38 dX12_row_180 0 rfl rfl ?_
                      refine j_bipush jb dX12_row_183 (by decide) ?_
                      refine j_iload_n jb dX12_row_185 2 rfl ?_
                      refine j_imul jb dX12_row_186 ?_
                      refine j_iload jb dX12_row_187 0 rfl ?_
                      refine j_iadd jb dX12_row_189 ?_
                      refine j_iald jb dX12_row_190 4 rfl (by omega) (by decide) ?_
                      refine j_geni (fun r9 e_r9 => ?_)
                      refine j_norm (lv' := []) (st' := [.int (iI r9)]) (ws' := [(n0, oX12 0 dp my sm st sz mo ms yb hpk pkr rt rk rx hsh si gt va vn wd wa re ua pkk pxx bp mk bi pl cd rn rch rtn rdp rki rea rby rsh), (pkr, aI x.g 5 pp), (rt, aI x.g 8 tt), (rk, aI x.g 32 kk), (rx, aI x.g 32 xk)]) [] [0, 1, 2, 3, 4] rfl rfl (by decide) rfl ?_
                      exact j_iret jb jr dX12_row_191 ⟨_, rfl, rfl, (by have zz : r9 = rowV (tt (4 * q)) (tt (4 * q + 1)) (tt (4 * q + 2)) (tt (4 * q + 3)) (fun j => kk (16 * q + j)) (fun j => xk (16 * q + j)) wh := (by rw [e_r9]; unfold rowV; rw [if_neg (by omega), if_neg (by omega), if_neg (by omega), if_neg (by omega)]; rcases hj9 with hj | hj <;> (first | (rw [if_pos (by omega), if_pos (by unfold cparts; rw [if_pos c_141]; omega)]; done) | (rw [if_neg (by omega), if_pos (by unfold cparts; rw [if_pos c_141]; omega)]; done) | (rw [if_pos (by omega), if_pos (by omega)]; done) | (rw [if_neg (by omega), if_pos (by omega)]; done) | (rw [if_pos (by omega), if_neg (by omega)]; congr 1; omega) | (rw [if_neg (by omega), if_neg (by omega)]; congr 1; omega))); exact ⟨fun z => absurd z hnb, fun z => absurd z.2 (by omega), fun z => absurd z.2.2 (by omega), fun _ => zz⟩)⟩
                    · skip
                      refine j_aload_n jb dX12_row_164 1 rfl ?_
                      refine j_get jb f_X12_35 dX12_row_165 0 rfl rfl ?_
                      refine j_bipush jb dX12_row_168 (by decide) ?_
                      refine j_iload_n jb dX12_row_170 2 rfl ?_
                      refine j_imul jb dX12_row_171 ?_
                      refine j_iload jb dX12_row_172 0 rfl ?_
                      refine j_iadd jb dX12_row_174 ?_
                      refine j_iald jb dX12_row_175 3 rfl (by omega) (by decide) ?_
                      refine j_goto (tgt := 191) jb dX12_row_176 (by decide) ?_
                      refine j_geni (fun r9 e_r9 => ?_)
                      refine j_norm (lv' := []) (st' := [.int (iI r9)]) (ws' := [(n0, oX12 0 dp my sm st sz mo ms yb hpk pkr rt rk rx hsh si gt va vn wd wa re ua pkk pxx bp mk bi pl cd rn rch rtn rdp rki rea rby rsh), (pkr, aI x.g 5 pp), (rt, aI x.g 8 tt), (rk, aI x.g 32 kk), (rx, aI x.g 32 xk)]) [] [0, 1, 2, 3, 4] rfl rfl (by decide) rfl ?_
                      exact j_iret jb jr dX12_row_191 ⟨_, rfl, rfl, (by have zz : r9 = rowV (tt (4 * q)) (tt (4 * q + 1)) (tt (4 * q + 2)) (tt (4 * q + 3)) (fun j => kk (16 * q + j)) (fun j => xk (16 * q + j)) wh := (by rw [e_r9]; unfold rowV; rw [if_neg (by omega), if_neg (by omega), if_neg (by omega), if_neg (by omega)]; rcases hj9 with hj | hj <;> (first | (rw [if_pos (by omega), if_pos (by unfold cparts; rw [if_pos c_141]; omega)]; done) | (rw [if_neg (by omega), if_pos (by unfold cparts; rw [if_pos c_141]; omega)]; done) | (rw [if_pos (by omega), if_pos (by omega)]; done) | (rw [if_neg (by omega), if_pos (by omega)]; done) | (rw [if_pos (by omega), if_neg (by omega)]; congr 1; omega) | (rw [if_neg (by omega), if_neg (by omega)]; congr 1; omega))); exact ⟨fun z => absurd z hnb, fun z => absurd z.2 (by omega), fun z => absurd z.2.2 (by omega), fun _ => zz⟩)⟩
                  · skip
                    refine j_bipush jb dX12_row_153 (by decide) ?_
                    refine j_goto (tgt := 191) jb dX12_row_155 (by decide) ?_
                    refine j_geni (fun r9 e_r9 => ?_)
                    refine j_norm (lv' := []) (st' := [.int (iI r9)]) (ws' := [(n0, oX12 0 dp my sm st sz mo ms yb hpk pkr rt rk rx hsh si gt va vn wd wa re ua pkk pxx bp mk bi pl cd rn rch rtn rdp rki rea rby rsh), (pkr, aI x.g 5 pp), (rt, aI x.g 8 tt), (rk, aI x.g 32 kk), (rx, aI x.g 32 xk)]) [] [0, 1, 2, 3, 4] rfl rfl (by decide) rfl ?_
                    exact j_iret jb jr dX12_row_191 ⟨_, rfl, rfl, (by have zz : r9 = rowV (tt (4 * q)) (tt (4 * q + 1)) (tt (4 * q + 2)) (tt (4 * q + 3)) (fun j => kk (16 * q + j)) (fun j => xk (16 * q + j)) wh := (by rw [e_r9]; unfold rowV; rw [if_neg (by omega), if_neg (by omega), if_neg (by omega), if_neg (by omega)]; rcases hj9 with hj | hj <;> (first | (rw [if_pos (by omega), if_pos (by unfold cparts; rw [if_pos c_141]; omega)]; done) | (rw [if_neg (by omega), if_pos (by unfold cparts; rw [if_pos c_141]; omega)]; done) | (rw [if_pos (by omega), if_pos (by omega)]; done) | (rw [if_neg (by omega), if_pos (by omega)]; done) | (rw [if_pos (by omega), if_neg (by omega)]; congr 1; omega) | (rw [if_neg (by omega), if_neg (by omega)]; congr 1; omega))); exact ⟨fun z => absurd z hnb, fun z => absurd z.2 (by omega), fun z => absurd z.2.2 (by omega), fun _ => zz⟩)⟩
              refine j_icmp_ge (tgt := 132) jb dX12_row_122 (by decide) (by omega) (by omega) (fun c_122 => ?_) (fun c_122 => ?_)
              · skip
                refine j_iload_n jb dX12_row_132 4 rfl ?_
                refine j_bipush jb dX12_row_133 (by decide) ?_
                refine j_isub jb dX12_row_135 ?_
                refine j_norm (lv' := [(0, .ref n0), (1, .int (iI q)), (2, .int (iI wh)), (3, .int (iI fl)), (4, .int (iI (tt ((4 * q) + 3))))]) (st' := [.int (iI (wh - 30))]) (ws' := [(n0, oX12 0 dp my sm st sz mo ms yb hpk pkr rt rk rx hsh si gt va vn wd wa re ua pkk pxx bp mk bi pl cd rn rch rtn rdp rki rea rby rsh), (pkr, aI x.g 5 pp), (rt, aI x.g 8 tt), (rk, aI x.g 32 kk), (rx, aI x.g 32 xk)]) [2, 3, 4, 1, 0] [0, 1, 2, 3, 4] rfl rfl (by decide) rfl ?_
                exact J136 (wh - 30) (by omega)
              · skip
                refine j_iload_n jb dX12_row_125 4 rfl ?_
                refine j_bipush jb dX12_row_126 (by decide) ?_
                refine j_isub jb dX12_row_128 ?_
                refine j_goto (tgt := 136) jb dX12_row_129 (by decide) ?_
                refine j_norm (lv' := [(0, .ref n0), (1, .int (iI q)), (2, .int (iI wh)), (3, .int (iI fl)), (4, .int (iI (tt ((4 * q) + 3))))]) (st' := [.int (iI (wh - 10))]) (ws' := [(n0, oX12 0 dp my sm st sz mo ms yb hpk pkr rt rk rx hsh si gt va vn wd wa re ua pkk pxx bp mk bi pl cd rn rch rtn rdp rki rea rby rsh), (pkr, aI x.g 5 pp), (rt, aI x.g 8 tt), (rk, aI x.g 32 kk), (rx, aI x.g 32 xk)]) [2, 3, 4, 1, 0] [0, 1, 2, 3, 4] rfl rfl (by decide) rfl ?_
                exact J136 (wh - 10) (by omega)
            · skip
              refine j_aload_n jb dX12_row_96 1 rfl ?_
              refine j_get jb f_X12_32 dX12_row_97 0 rfl rfl ?_
              refine j_iconst jb dX12_row_100 ?_
              refine j_iload_n jb dX12_row_101 2 rfl ?_
              refine j_imul jb dX12_row_102 ?_
              refine j_iload_n jb dX12_row_103 3 rfl ?_
              refine j_iadd jb dX12_row_104 ?_
              refine j_iald jb dX12_row_105 2 rfl (by omega) (by decide) ?_
              refine j_geni (fun r9 e_r9 => ?_)
              refine j_norm (lv' := []) (st' := [.int (iI r9)]) (ws' := [(n0, oX12 0 dp my sm st sz mo ms yb hpk pkr rt rk rx hsh si gt va vn wd wa re ua pkk pxx bp mk bi pl cd rn rch rtn rdp rki rea rby rsh), (pkr, aI x.g 5 pp), (rt, aI x.g 8 tt), (rk, aI x.g 32 kk), (rx, aI x.g 32 xk)]) [] [0, 1, 2, 3, 4] rfl rfl (by decide) rfl ?_
              exact j_iret jb jr dX12_row_106 ⟨_, rfl, rfl, (by have zz : r9 = rowV (tt (4 * q)) (tt (4 * q + 1)) (tt (4 * q + 2)) (tt (4 * q + 3)) (fun j => kk (16 * q + j)) (fun j => xk (16 * q + j)) wh := (by rw [e_r9]; unfold rowV; first | (rw [if_pos (show wh = 0 by omega)]; congr 1; omega) | (rcases (show wh = 0 ∨ wh = 1 ∨ wh = 2 ∨ wh = 3 by omega) with e | e | e | e <;> (subst e; first | rfl | (congr 1; omega) | (rw [Int.add_zero]; rfl)))); exact ⟨fun z => absurd z hnb, fun z => absurd z.2 (by omega), fun z => absurd z.2.2 (by omega), fun _ => zz⟩)⟩
          · skip
            refine j_bipush jb dX12_row_88 (by decide) ?_
            refine j_norm (lv' := []) (st' := [.int (iI (-2))]) (ws' := [(n0, oX12 0 dp my sm st sz mo ms yb hpk pkr rt rk rx hsh si gt va vn wd wa re ua pkk pxx bp mk bi pl cd rn rch rtn rdp rki rea rby rsh), (pkr, aI x.g 5 pp), (rt, aI x.g 8 tt), (rk, aI x.g 32 kk), (rx, aI x.g 32 xk)]) [] [0, 1, 2, 3, 4] rfl rfl (by decide) rfl ?_
            exact j_iret jb jr dX12_row_90 ⟨_, rfl, rfl, (by omega)⟩
        · skip
          refine j_bipush jb dX12_row_75 (by decide) ?_
          refine j_norm (lv' := []) (st' := [.int (iI (-3))]) (ws' := [(n0, oX12 0 dp my sm st sz mo ms yb hpk pkr rt rk rx hsh si gt va vn wd wa re ua pkk pxx bp mk bi pl cd rn rch rtn rdp rki rea rby rsh), (pkr, aI x.g 5 pp), (rt, aI x.g 8 tt), (rk, aI x.g 32 kk), (rx, aI x.g 32 xk)]) [] [0, 1, 2, 3, 4] rfl rfl (by decide) rfl ?_
          exact j_iret jb jr dX12_row_77 ⟨_, rfl, rfl, (by omega)⟩
      · skip
        refine j_iload_n jb dX12_row_61 0 rfl ?_
        refine j_if_ne (tgt := 68) jb dX12_row_62 (by decide) (by omega) (fun c_62 => ?_) (fun c_62 => ?_)
        · skip
          refine j_aload_n jb dX12_row_68 1 rfl ?_
          refine j_get jb f_X12_184 dX12_row_69 0 rfl rfl ?_
          refine j_if_ne (tgt := 78) jb dX12_row_72 (by decide) (by omega) (fun c_72 => ?_) (fun c_72 => ?_)
          · skip
            have hnb : ¬ (¬ (0 ≤ q ∧ q < 2) ∨ ¬ (((10 ≤ wh ∧ wh < 26) ∨ (30 ≤ wh ∧ wh < 46)) ∨ (0 ≤ wh ∧ wh ≤ 3))) := by omega
            refine j_iload_n jb dX12_row_78 2 rfl ?_
            refine j_aload_n jb dX12_row_79 1 rfl ?_
            refine j_get jb f_X12_29 dX12_row_80 0 rfl rfl ?_
            refine j_iconst jb dX12_row_83 ?_
            refine j_iald jb dX12_row_84 1 rfl (by omega) (by decide) ?_
            refine j_icmp_lt (tgt := 91) jb dX12_row_85 (by decide) (by omega) (by omega) (fun c_85 => ?_) (fun c_85 => ?_)
            · skip
              refine j_iload_n jb dX12_row_91 3 rfl ?_
              refine j_iconst jb dX12_row_92 ?_
              refine j_icmp_ge (tgt := 107) jb dX12_row_93 (by decide) (by omega) (by omega) (fun c_93 => ?_) (fun c_93 => ?_)
              · skip
                have htt : -1 ≤ tt (4 * q + 3) ∧ tt (4 * q + 3) ≤ 4 := by (rcases (show q = 0 ∨ q = 1 by omega) with e | e <;> (rw [e]; first | exact hp0 | exact hp1))
                have hcp := cparts_in htt
                refine j_aload_n jb dX12_row_107 1 rfl ?_
                refine j_get jb f_X12_32 dX12_row_108 0 rfl rfl ?_
                refine j_iconst jb dX12_row_111 ?_
                refine j_iload_n jb dX12_row_112 2 rfl ?_
                refine j_imul jb dX12_row_113 ?_
                refine j_iconst jb dX12_row_114 ?_
                refine j_iadd jb dX12_row_115 ?_
                refine j_iald jb dX12_row_116 2 rfl (by omega) (by decide) ?_
                refine j_istore (lv' := [(4, .int (iI (tt ((4 * q) + 3)))), (3, .int (iI fl)), (0, .ref n0), (1, .int (iI q)), (2, .int (iI wh))]) jb dX12_row_117 (by decide) rfl ?_
                refine j_iload_n jb dX12_row_119 4 rfl ?_
                refine j_bipush jb dX12_row_120 (by decide) ?_
                have J136 : ∀ (j9 : Int), ((wh < 30 ∧ j9 = wh - 10) ∨ (30 ≤ wh ∧ j9 = wh - 30)) → JW x 0 0 136 [(0, .ref n0), (1, .int (iI q)), (2, .int (iI wh)), (3, .int (iI fl)), (4, .int (iI (tt ((4 * q) + 3))))] [.int (iI j9)] [(n0, oX12 0 dp my sm st sz mo ms yb hpk pkr rt rk rx hsh si gt va vn wd wa re ua pkk pxx bp mk bi pl cd rn rch rtn rdp rki rea rby rsh), (pkr, aI x.g 5 pp), (rt, aI x.g 8 tt), (rk, aI x.g 32 kk), (rx, aI x.g 32 xk)] := by
                  intro j9 hj9
                  refine j_istore (lv' := [(5, .int (iI j9)), (0, .ref n0), (1, .int (iI q)), (2, .int (iI wh)), (3, .int (iI fl)), (4, .int (iI (tt ((4 * q) + 3))))]) jb dX12_row_136 (by decide) rfl ?_
                  refine j_iload jb dX12_row_138 5 rfl ?_
                  refine j_iconst jb dX12_row_140 ?_
                  refine j_icmp_eq (tgt := 153) jb dX12_row_141 (by decide) (by omega) (by omega) (fun c_141 => ?_) (fun c_141 => ?_)
                  · skip
                    refine j_bipush jb dX12_row_153 (by decide) ?_
                    refine j_goto (tgt := 191) jb dX12_row_155 (by decide) ?_
                    refine j_geni (fun r9 e_r9 => ?_)
                    refine j_norm (lv' := []) (st' := [.int (iI r9)]) (ws' := [(n0, oX12 0 dp my sm st sz mo ms yb hpk pkr rt rk rx hsh si gt va vn wd wa re ua pkk pxx bp mk bi pl cd rn rch rtn rdp rki rea rby rsh), (pkr, aI x.g 5 pp), (rt, aI x.g 8 tt), (rk, aI x.g 32 kk), (rx, aI x.g 32 xk)]) [] [0, 1, 2, 3, 4] rfl rfl (by decide) rfl ?_
                    exact j_iret jb jr dX12_row_191 ⟨_, rfl, rfl, (by have zz : r9 = rowV (tt (4 * q)) (tt (4 * q + 1)) (tt (4 * q + 2)) (tt (4 * q + 3)) (fun j => kk (16 * q + j)) (fun j => xk (16 * q + j)) wh := (by rw [e_r9]; unfold rowV; rw [if_neg (by omega), if_neg (by omega), if_neg (by omega), if_neg (by omega)]; rcases hj9 with hj | hj <;> (first | (rw [if_pos (by omega), if_pos (by unfold cparts; rw [if_pos c_141]; omega)]; done) | (rw [if_neg (by omega), if_pos (by unfold cparts; rw [if_pos c_141]; omega)]; done) | (rw [if_pos (by omega), if_pos (by omega)]; done) | (rw [if_neg (by omega), if_pos (by omega)]; done) | (rw [if_pos (by omega), if_neg (by omega)]; congr 1; omega) | (rw [if_neg (by omega), if_neg (by omega)]; congr 1; omega))); exact ⟨fun z => absurd z hnb, fun z => absurd z.2 (by omega), fun z => absurd z.2.2 (by omega), fun _ => zz⟩)⟩
                  · skip
                    have hcq : cparts (tt (4 * q + 3)) = 2 ^ (tt (4 * q + 3)).toNat := if_neg c_141
                    refine j_iload jb dX12_row_144 0 rfl ?_
                    refine j_iconst jb dX12_row_146 ?_
                    refine j_iload jb dX12_row_147 5 rfl ?_
                    refine j_ishl jb dX12_row_149 (by omega) ?_
                    refine j_topi (2 ^ (tt (4 * q + 3)).toNat) (Int.one_mul _) ?_
                    refine j_icmp_lt (tgt := 158) jb dX12_row_150 (by decide) (by omega) (by omega) (fun c_150 => ?_) (fun c_150 => ?_)
                    · skip
                      refine j_iload_n jb dX12_row_158 3 rfl ?_
                      refine j_bipush jb dX12_row_159 (by decide) ?_
                      refine j_icmp_ge (tgt := 179) jb dX12_row_161 (by decide) (by omega) (by omega) (fun c_161 => ?_) (fun c_161 => ?_)
                      · skip
                        refine j_aload_n jb dX12_row_179 1 rfl ?_
                        refine j_get jb f_X12_38 dX12_row_180 0 rfl rfl ?_
                        refine j_bipush jb dX12_row_183 (by decide) ?_
                        refine j_iload_n jb dX12_row_185 2 rfl ?_
                        refine j_imul jb dX12_row_186 ?_
                        refine j_iload jb dX12_row_187 0 rfl ?_
                        refine j_iadd jb dX12_row_189 ?_
                        refine j_iald jb dX12_row_190 4 rfl (by omega) (by decide) ?_
                        refine j_geni (fun r9 e_r9 => ?_)
                        refine j_norm (lv' := []) (st' := [.int (iI r9)]) (ws' := [(n0, oX12 0 dp my sm st sz mo ms yb hpk pkr rt rk rx hsh si gt va vn wd wa re ua pkk pxx bp mk bi pl cd rn rch rtn rdp rki rea rby rsh), (pkr, aI x.g 5 pp), (rt, aI x.g 8 tt), (rk, aI x.g 32 kk), (rx, aI x.g 32 xk)]) [] [0, 1, 2, 3, 4] rfl rfl (by decide) rfl ?_
                        exact j_iret jb jr dX12_row_191 ⟨_, rfl, rfl, (by have zz : r9 = rowV (tt (4 * q)) (tt (4 * q + 1)) (tt (4 * q + 2)) (tt (4 * q + 3)) (fun j => kk (16 * q + j)) (fun j => xk (16 * q + j)) wh := (by rw [e_r9]; unfold rowV; rw [if_neg (by omega), if_neg (by omega), if_neg (by omega), if_neg (by omega)]; rcases hj9 with hj | hj <;> (first | (rw [if_pos (by omega), if_pos (by unfold cparts; rw [if_pos c_141]; omega)]; done) | (rw [if_neg (by omega), if_pos (by unfold cparts; rw [if_pos c_141]; omega)]; done) | (rw [if_pos (by omega), if_pos (by omega)]; done) | (rw [if_neg (by omega), if_pos (by omega)]; done) | (rw [if_pos (by omega), if_neg (by omega)]; congr 1; omega) | (rw [if_neg (by omega), if_neg (by omega)]; congr 1; omega))); exact ⟨fun z => absurd z hnb, fun z => absurd z.2 (by omega), fun z => absurd z.2.2 (by omega), fun _ => zz⟩)⟩
                      · skip
                        refine j_aload_n jb dX12_row_164 1 rfl ?_
                        refine j_get jb f_X12_35 dX12_row_165 0 rfl rfl ?_
                        refine j_bipush jb dX12_row_168 (by decide) ?_
                        refine j_iload_n jb dX12_row_170 2 rfl ?_
                        refine j_imul jb dX12_row_171 ?_
                        refine j_iload jb dX12_row_172 0 rfl ?_
                        refine j_iadd jb dX12_row_174 ?_
                        refine j_iald jb dX12_row_175 3 rfl (by omega) (by decide) ?_
                        refine j_goto (tgt := 191) jb dX12_row_176 (by decide) ?_
                        refine j_geni (fun r9 e_r9 => ?_)
                        refine j_norm (lv' := []) (st' := [.int (iI r9)]) (ws' := [(n0, oX12 0 dp my sm st sz mo ms yb hpk pkr rt rk rx hsh si gt va vn wd wa re ua pkk pxx bp mk bi pl cd rn rch rtn rdp rki rea rby rsh), (pkr, aI x.g 5 pp), (rt, aI x.g 8 tt), (rk, aI x.g 32 kk), (rx, aI x.g 32 xk)]) [] [0, 1, 2, 3, 4] rfl rfl (by decide) rfl ?_
                        exact j_iret jb jr dX12_row_191 ⟨_, rfl, rfl, (by have zz : r9 = rowV (tt (4 * q)) (tt (4 * q + 1)) (tt (4 * q + 2)) (tt (4 * q + 3)) (fun j => kk (16 * q + j)) (fun j => xk (16 * q + j)) wh := (by rw [e_r9]; unfold rowV; rw [if_neg (by omega), if_neg (by omega), if_neg (by omega), if_neg (by omega)]; rcases hj9 with hj | hj <;> (first | (rw [if_pos (by omega), if_pos (by unfold cparts; rw [if_pos c_141]; omega)]; done) | (rw [if_neg (by omega), if_pos (by unfold cparts; rw [if_pos c_141]; omega)]; done) | (rw [if_pos (by omega), if_pos (by omega)]; done) | (rw [if_neg (by omega), if_pos (by omega)]; done) | (rw [if_pos (by omega), if_neg (by omega)]; congr 1; omega) | (rw [if_neg (by omega), if_neg (by omega)]; congr 1; omega))); exact ⟨fun z => absurd z hnb, fun z => absurd z.2 (by omega), fun z => absurd z.2.2 (by omega), fun _ => zz⟩)⟩
                    · skip
                      refine j_bipush jb dX12_row_153 (by decide) ?_
                      refine j_goto (tgt := 191) jb dX12_row_155 (by decide) ?_
                      refine j_geni (fun r9 e_r9 => ?_)
                      refine j_norm (lv' := []) (st' := [.int (iI r9)]) (ws' := [(n0, oX12 0 dp my sm st sz mo ms yb hpk pkr rt rk rx hsh si gt va vn wd wa re ua pkk pxx bp mk bi pl cd rn rch rtn rdp rki rea rby rsh), (pkr, aI x.g 5 pp), (rt, aI x.g 8 tt), (rk, aI x.g 32 kk), (rx, aI x.g 32 xk)]) [] [0, 1, 2, 3, 4] rfl rfl (by decide) rfl ?_
                      exact j_iret jb jr dX12_row_191 ⟨_, rfl, rfl, (by have zz : r9 = rowV (tt (4 * q)) (tt (4 * q + 1)) (tt (4 * q + 2)) (tt (4 * q + 3)) (fun j => kk (16 * q + j)) (fun j => xk (16 * q + j)) wh := (by rw [e_r9]; unfold rowV; rw [if_neg (by omega), if_neg (by omega), if_neg (by omega), if_neg (by omega)]; rcases hj9 with hj | hj <;> (first | (rw [if_pos (by omega), if_pos (by unfold cparts; rw [if_pos c_141]; omega)]; done) | (rw [if_neg (by omega), if_pos (by unfold cparts; rw [if_pos c_141]; omega)]; done) | (rw [if_pos (by omega), if_pos (by omega)]; done) | (rw [if_neg (by omega), if_pos (by omega)]; done) | (rw [if_pos (by omega), if_neg (by omega)]; congr 1; omega) | (rw [if_neg (by omega), if_neg (by omega)]; congr 1; omega))); exact ⟨fun z => absurd z hnb, fun z => absurd z.2 (by omega), fun z => absurd z.2.2 (by omega), fun _ => zz⟩)⟩
                refine j_icmp_ge (tgt := 132) jb dX12_row_122 (by decide) (by omega) (by omega) (fun c_122 => ?_) (fun c_122 => ?_)
                · skip
                  refine j_iload_n jb dX12_row_132 4 rfl ?_
                  refine j_bipush jb dX12_row_133 (by decide) ?_
                  refine j_isub jb dX12_row_135 ?_
                  refine j_norm (lv' := [(0, .ref n0), (1, .int (iI q)), (2, .int (iI wh)), (3, .int (iI fl)), (4, .int (iI (tt ((4 * q) + 3))))]) (st' := [.int (iI (wh - 30))]) (ws' := [(n0, oX12 0 dp my sm st sz mo ms yb hpk pkr rt rk rx hsh si gt va vn wd wa re ua pkk pxx bp mk bi pl cd rn rch rtn rdp rki rea rby rsh), (pkr, aI x.g 5 pp), (rt, aI x.g 8 tt), (rk, aI x.g 32 kk), (rx, aI x.g 32 xk)]) [2, 3, 4, 1, 0] [0, 1, 2, 3, 4] rfl rfl (by decide) rfl ?_
                  exact J136 (wh - 30) (by omega)
                · skip
                  refine j_iload_n jb dX12_row_125 4 rfl ?_
                  refine j_bipush jb dX12_row_126 (by decide) ?_
                  refine j_isub jb dX12_row_128 ?_
                  refine j_goto (tgt := 136) jb dX12_row_129 (by decide) ?_
                  refine j_norm (lv' := [(0, .ref n0), (1, .int (iI q)), (2, .int (iI wh)), (3, .int (iI fl)), (4, .int (iI (tt ((4 * q) + 3))))]) (st' := [.int (iI (wh - 10))]) (ws' := [(n0, oX12 0 dp my sm st sz mo ms yb hpk pkr rt rk rx hsh si gt va vn wd wa re ua pkk pxx bp mk bi pl cd rn rch rtn rdp rki rea rby rsh), (pkr, aI x.g 5 pp), (rt, aI x.g 8 tt), (rk, aI x.g 32 kk), (rx, aI x.g 32 xk)]) [2, 3, 4, 1, 0] [0, 1, 2, 3, 4] rfl rfl (by decide) rfl ?_
                  exact J136 (wh - 10) (by omega)
              · skip
                refine j_aload_n jb dX12_row_96 1 rfl ?_
                refine j_get jb f_X12_32 dX12_row_97 0 rfl rfl ?_
                refine j_iconst jb dX12_row_100 ?_
                refine j_iload_n jb dX12_row_101 2 rfl ?_
                refine j_imul jb dX12_row_102 ?_
                refine j_iload_n jb dX12_row_103 3 rfl ?_
                refine j_iadd jb dX12_row_104 ?_
                refine j_iald jb dX12_row_105 2 rfl (by omega) (by decide) ?_
                refine j_geni (fun r9 e_r9 => ?_)
                refine j_norm (lv' := []) (st' := [.int (iI r9)]) (ws' := [(n0, oX12 0 dp my sm st sz mo ms yb hpk pkr rt rk rx hsh si gt va vn wd wa re ua pkk pxx bp mk bi pl cd rn rch rtn rdp rki rea rby rsh), (pkr, aI x.g 5 pp), (rt, aI x.g 8 tt), (rk, aI x.g 32 kk), (rx, aI x.g 32 xk)]) [] [0, 1, 2, 3, 4] rfl rfl (by decide) rfl ?_
                exact j_iret jb jr dX12_row_106 ⟨_, rfl, rfl, (by have zz : r9 = rowV (tt (4 * q)) (tt (4 * q + 1)) (tt (4 * q + 2)) (tt (4 * q + 3)) (fun j => kk (16 * q + j)) (fun j => xk (16 * q + j)) wh := (by rw [e_r9]; unfold rowV; first | (rw [if_pos (show wh = 0 by omega)]; congr 1; omega) | (rcases (show wh = 0 ∨ wh = 1 ∨ wh = 2 ∨ wh = 3 by omega) with e | e | e | e <;> (subst e; first | rfl | (congr 1; omega) | (rw [Int.add_zero]; rfl)))); exact ⟨fun z => absurd z hnb, fun z => absurd z.2 (by omega), fun z => absurd z.2.2 (by omega), fun _ => zz⟩)⟩
            · skip
              refine j_bipush jb dX12_row_88 (by decide) ?_
              refine j_norm (lv' := []) (st' := [.int (iI (-2))]) (ws' := [(n0, oX12 0 dp my sm st sz mo ms yb hpk pkr rt rk rx hsh si gt va vn wd wa re ua pkk pxx bp mk bi pl cd rn rch rtn rdp rki rea rby rsh), (pkr, aI x.g 5 pp), (rt, aI x.g 8 tt), (rk, aI x.g 32 kk), (rx, aI x.g 32 xk)]) [] [0, 1, 2, 3, 4] rfl rfl (by decide) rfl ?_
              exact j_iret jb jr dX12_row_90 ⟨_, rfl, rfl, (by omega)⟩
          · skip
            refine j_bipush jb dX12_row_75 (by decide) ?_
            refine j_norm (lv' := []) (st' := [.int (iI (-3))]) (ws' := [(n0, oX12 0 dp my sm st sz mo ms yb hpk pkr rt rk rx hsh si gt va vn wd wa re ua pkk pxx bp mk bi pl cd rn rch rtn rdp rki rea rby rsh), (pkr, aI x.g 5 pp), (rt, aI x.g 8 tt), (rk, aI x.g 32 kk), (rx, aI x.g 32 xk)]) [] [0, 1, 2, 3, 4] rfl rfl (by decide) rfl ?_
            exact j_iret jb jr dX12_row_77 ⟨_, rfl, rfl, (by omega)⟩
        · skip
          refine j_bipush jb dX12_row_65 (by decide) ?_
          refine j_norm (lv' := []) (st' := [.int (iI (-2))]) (ws' := [(n0, oX12 0 dp my sm st sz mo ms yb hpk pkr rt rk rx hsh si gt va vn wd wa re ua pkk pxx bp mk bi pl cd rn rch rtn rdp rki rea rby rsh), (pkr, aI x.g 5 pp), (rt, aI x.g 8 tt), (rk, aI x.g 32 kk), (rx, aI x.g 32 xk)]) [] [0, 1, 2, 3, 4] rfl rfl (by decide) rfl ?_
          exact j_iret jb jr dX12_row_67 ⟨_, rfl, rfl, (by omega)⟩
  refine j_ifb_ne (tgt := 33) jb dX12_row_16 (by decide) (fun c_16 => ?_) (fun c_16 => ?_)
  · skip
    refine j_iconst jb dX12_row_33 ?_
    refine j_goto (tgt := 38) jb dX12_row_34 (by decide) ?_
    refine j_norm (lv' := [(0, .ref n0), (1, .int (iI q)), (2, .int (iI wh))]) (st' := [.int (iI 1)]) (ws' := [(n0, oX12 0 dp my sm st sz mo ms yb hpk pkr rt rk rx hsh si gt va vn wd wa re ua pkk pxx bp mk bi pl cd rn rch rtn rdp rki rea rby rsh), (pkr, aI x.g 5 pp), (rt, aI x.g 8 tt), (rk, aI x.g 32 kk), (rx, aI x.g 32 xk)]) [0, 1, 2] [0, 1, 2, 3, 4] rfl rfl (by decide) rfl ?_
    exact J38 1 (by omega)
  · skip
    refine j_iload_n jb dX12_row_19 2 rfl ?_
    refine j_i2l jb dX12_row_20 (by omega) ?_
    refine j_ldc2 (z := 30) jb q_X12_196 rfl dX12_row_21 ?_
    refine j_ldc2 (z := 45) jb q_X12_198 rfl dX12_row_24 ?_
    refine j_callS (wr := [(n0, oX12 0 dp my sm st sz mo ms yb hpk pkr rt rk rx hsh si gt va vn wd wa re ua pkk pxx bp mk bi pl cd rn rch rtn rdp rki rea rby rsh), (pkr, aI x.g 5 pp), (rt, aI x.g 8 tt), (rk, aI x.g 32 kk), (rx, aI x.g 32 xk)]) jb k_X12_in t_X12_in l_X12_72 (C_X12_in x.l x.g wh 30 45 (by omega) (by omega) (by omega)) [] [0, 1, 2, 3, 4] (by decide) rfl rfl (by decide) (by decide) rfl rfl (Nat.le_of_ble_eq_true rfl) (by decide) dX12_row_27 (fun v w hp => ?_)
    obtain ⟨rfl, rfl⟩ := hp
    refine j_norm (lv' := [(0, .ref n0), (1, .int (iI q)), (2, .int (iI wh))]) (st' := [.int (iI (b2i (30 ≤ wh ∧ wh ≤ 45)))]) (ws' := [(n0, oX12 0 dp my sm st sz mo ms yb hpk pkr rt rk rx hsh si gt va vn wd wa re ua pkk pxx bp mk bi pl cd rn rch rtn rdp rki rea rby rsh), (pkr, aI x.g 5 pp), (rt, aI x.g 8 tt), (rk, aI x.g 32 kk), (rx, aI x.g 32 xk)]) [0, 1, 2] [0, 1, 2, 3, 4] rfl rfl (by decide) rfl ?_
    refine j_ifb_eq (tgt := 37) jb dX12_row_30 (by decide) (fun c_30 => ?_) (fun c_30 => ?_)
    · skip
      refine j_iconst jb dX12_row_37 ?_
      refine j_norm (lv' := [(0, .ref n0), (1, .int (iI q)), (2, .int (iI wh))]) (st' := [.int (iI 0)]) (ws' := [(n0, oX12 0 dp my sm st sz mo ms yb hpk pkr rt rk rx hsh si gt va vn wd wa re ua pkk pxx bp mk bi pl cd rn rch rtn rdp rki rea rby rsh), (pkr, aI x.g 5 pp), (rt, aI x.g 8 tt), (rk, aI x.g 32 kk), (rx, aI x.g 32 xk)]) [0, 1, 2] [0, 1, 2, 3, 4] rfl rfl (by decide) rfl ?_
      exact J38 0 (by omega)
    · skip
      refine j_iconst jb dX12_row_33 ?_
      refine j_goto (tgt := 38) jb dX12_row_34 (by decide) ?_
      refine j_norm (lv' := [(0, .ref n0), (1, .int (iI q)), (2, .int (iI wh))]) (st' := [.int (iI 1)]) (ws' := [(n0, oX12 0 dp my sm st sz mo ms yb hpk pkr rt rk rx hsh si gt va vn wd wa re ua pkk pxx bp mk bi pl cd rn rch rtn rdp rki rea rby rsh), (pkr, aI x.g 5 pp), (rt, aI x.g 8 tt), (rk, aI x.g 32 kk), (rx, aI x.g 32 xk)]) [0, 1, 2] [0, 1, 2, 3, 4] rfl rfl (by decide) rfl ?_
      exact J38 1 (by omega)

set_option maxHeartbeats 4000000 in
set_option maxRecDepth 100000 in
theorem C_X12_shown (l : Launch) (g : GG) (n0 my sm st yb pkr rt rk rx si gt va re ua mk rki rea rby : Nat) (th dp sz mo ms hpk hsh vn wd wa pkk pxx bp bi pl cd rn rch rtn rdp rsh : Int) (wh : Int) (hs : Int → Int) (hw : inR wh) (hh : 0 ≤ hsh ∧ hsh ≤ 1) : Ctr l g yX12_shown cX12_shown 2 (some .int) 1 30 0 0 [.ref n0, .int (iI wh)] [(n0, oX12 th dp my sm st sz mo ms yb hpk pkr rt rk rx hsh si gt va vn wd wa re ua pkk pxx bp mk bi pl cd rn rch rtn rdp rki rea rby rsh), (si, aI g 7 hs)] (fun vv ww => ∃ (r : Int), vv = some (.int (iI r)) ∧ ww = [(n0, oX12 0 dp my sm st sz mo ms yb hpk pkr rt rk rx hsh si gt va vn wd wa re ua pkk pxx bp mk bi pl cd rn rch rtn rdp rki rea rby rsh), (si, aI g 7 hs)] ∧ (¬ (0 ≤ wh ∧ wh ≤ 6) → r = -2) ∧ ((0 ≤ wh ∧ wh ≤ 6) ∧ hsh = 0 → r = -3) ∧ ((0 ≤ wh ∧ wh ≤ 6) ∧ ¬ hsh = 0 → r = hs wh)) := by
  refine Ctr.of [(0, .ref n0), (1, .int (iI wh))] (by decide) (Nat.le_of_ble_eq_true rfl) rfl ?_
  intro x hxl hxg jb jr hin
  subst hxl; subst hxg
  refine j_aload_n jb dX12_shown_0 0 rfl ?_
  refine j_iconst jb dX12_shown_1 ?_
  refine j_put (ws' := [(n0, oX12 0 dp my sm st sz mo ms yb hpk pkr rt rk rx hsh si gt va vn wd wa re ua pkk pxx bp mk bi pl cd rn rch rtn rdp rki rea rby rsh), (si, aI x.g 7 hs)]) jb f_X12_1 w_X12_0 rfl dX12_shown_2 0 rfl rfl rfl (Nat.le_of_ble_eq_true rfl) rfl ?_
  refine j_iload_n jb dX12_shown_5 1 rfl ?_
  refine j_i2l jb dX12_shown_6 (by omega) ?_
  refine j_lconst (z := 0) jb dX12_shown_7 rfl ?_
  refine j_ldc2 (z := 6) jb q_X12_105 rfl dX12_shown_8 ?_
  refine j_callS (wr := [(n0, oX12 0 dp my sm st sz mo ms yb hpk pkr rt rk rx hsh si gt va vn wd wa re ua pkk pxx bp mk bi pl cd rn rch rtn rdp rki rea rby rsh), (si, aI x.g 7 hs)]) jb k_X12_in t_X12_in l_X12_72 (C_X12_in x.l x.g wh 0 6 (by omega) (by omega) (by omega)) [] [0, 1] (by decide) rfl rfl (by decide) (by decide) rfl rfl (Nat.le_of_ble_eq_true rfl) (by decide) dX12_shown_11 (fun v w hp => ?_)
  obtain ⟨rfl, rfl⟩ := hp
  refine j_norm (lv' := [(0, .ref n0), (1, .int (iI wh))]) (st' := [.int (iI (b2i (0 ≤ wh ∧ wh ≤ 6)))]) (ws' := [(n0, oX12 0 dp my sm st sz mo ms yb hpk pkr rt rk rx hsh si gt va vn wd wa re ua pkk pxx bp mk bi pl cd rn rch rtn rdp rki rea rby rsh), (si, aI x.g 7 hs)]) [0, 1] [0, 1] rfl rfl (by decide) rfl ?_
  refine j_ifb_ne (tgt := 22) jb dX12_shown_14 (by decide) (fun c_14 => ?_) (fun c_14 => ?_)
  · skip
    refine j_aload_n jb dX12_shown_22 0 rfl ?_
    refine j_get jb f_X12_259 dX12_shown_23 0 rfl rfl ?_
    refine j_if_eq (tgt := 38) jb dX12_shown_26 (by decide) (by omega) (fun c_26 => ?_) (fun c_26 => ?_)
    · skip
      refine j_bipush jb dX12_shown_38 (by decide) ?_
      refine j_norm (lv' := []) (st' := [.int (iI (-3))]) (ws' := [(n0, oX12 0 dp my sm st sz mo ms yb hpk pkr rt rk rx hsh si gt va vn wd wa re ua pkk pxx bp mk bi pl cd rn rch rtn rdp rki rea rby rsh), (si, aI x.g 7 hs)]) [] [0, 1] rfl rfl (by decide) rfl ?_
      exact j_iret jb jr dX12_shown_40 ⟨_, rfl, rfl, (by omega)⟩
    · skip
      refine j_aload_n jb dX12_shown_29 0 rfl ?_
      refine j_get jb f_X12_41 dX12_shown_30 0 rfl rfl ?_
      refine j_iload_n jb dX12_shown_33 1 rfl ?_
      refine j_iald jb dX12_shown_34 1 rfl (by omega) (by decide) ?_
      refine j_goto (tgt := 40) jb dX12_shown_35 (by decide) ?_
      refine j_norm (lv' := []) (st' := [.int (iI (hs wh))]) (ws' := [(n0, oX12 0 dp my sm st sz mo ms yb hpk pkr rt rk rx hsh si gt va vn wd wa re ua pkk pxx bp mk bi pl cd rn rch rtn rdp rki rea rby rsh), (si, aI x.g 7 hs)]) [] [0, 1] rfl rfl (by decide) rfl ?_
      exact j_iret jb jr dX12_shown_40 ⟨_, rfl, rfl, (by omega)⟩
  · skip
    refine j_bipush jb dX12_shown_17 (by decide) ?_
    refine j_goto (tgt := 40) jb dX12_shown_19 (by decide) ?_
    refine j_norm (lv' := []) (st' := [.int (iI (-2))]) (ws' := [(n0, oX12 0 dp my sm st sz mo ms yb hpk pkr rt rk rx hsh si gt va vn wd wa re ua pkk pxx bp mk bi pl cd rn rch rtn rdp rki rea rby rsh), (si, aI x.g 7 hs)]) [] [0, 1] rfl rfl (by decide) rfl ?_
    exact j_iret jb jr dX12_shown_40 ⟨_, rfl, rfl, (by omega)⟩

set_option maxHeartbeats 4000000 in
set_option maxRecDepth 100000 in
theorem C_X12_got (l : Launch) (g : GG) (n0 my sm st yb pkr rt rk rx si gt va re ua mk rki rea rby : Nat) (th dp sz mo ms hpk hsh vn wd wa pkk pxx bp bi pl cd rn rch rtn rdp rsh : Int) (ch i : Int) (hs gg : Int → Int) (hc : inR ch) (hi : inR i) (hh : 0 ≤ hsh ∧ hsh ≤ 1) (hh0 : ¬ hsh = 0 → (1 ≤ hs 0 ∧ hs 0 ≤ 400) ∧ (1 ≤ hs 1 ∧ hs 1 ≤ 2)) : Ctr l g yX12_got cX12_got 4 (some .int) 1 30 0 0 [.ref n0, .int (iI ch), .int (iI i)] [(n0, oX12 th dp my sm st sz mo ms yb hpk pkr rt rk rx hsh si gt va vn wd wa re ua pkk pxx bp mk bi pl cd rn rch rtn rdp rki rea rby rsh), (si, aI g 7 hs), (gt, aI g 800 gg)] (fun vv ww => ∃ (r th2 : Int), vv = some (.int (iI r)) ∧ ww = [(n0, oX12 th2 dp my sm st sz mo ms yb hpk pkr rt rk rx hsh si gt va vn wd wa re ua pkk pxx bp mk bi pl cd rn rch rtn rdp rki rea rby rsh), (si, aI g 7 hs), (gt, aI g 800 gg)] ∧ ((¬ hsh = 0 ∧ (0 ≤ ch ∧ ch < hs 1) ∧ (0 ≤ i ∧ i < hs 0)) → th2 = 0 ∧ r = gg (400 * ch + i)) ∧ (¬ (¬ hsh = 0 ∧ (0 ≤ ch ∧ ch < hs 1) ∧ (0 ≤ i ∧ i < hs 0)) → th2 = 1)) := by
  refine Ctr.of [(0, .ref n0), (1, .int (iI ch)), (2, .int (iI i))] (by decide) (Nat.le_of_ble_eq_true rfl) rfl ?_
  intro x hxl hxg jb jr hin
  subst hxl; subst hxg
  refine j_aload_n jb dX12_got_0 0 rfl ?_
  refine j_iconst jb dX12_got_1 ?_
  refine j_put (ws' := [(n0, oX12 0 dp my sm st sz mo ms yb hpk pkr rt rk rx hsh si gt va vn wd wa re ua pkk pxx bp mk bi pl cd rn rch rtn rdp rki rea rby rsh), (si, aI x.g 7 hs), (gt, aI x.g 800 gg)]) jb f_X12_1 w_X12_0 rfl dX12_got_2 0 rfl rfl rfl (Nat.le_of_ble_eq_true rfl) rfl ?_
  refine j_aload_n jb dX12_got_5 0 rfl ?_
  refine j_get jb f_X12_259 dX12_got_6 0 rfl rfl ?_
  have J53 : ∀ (fl : Int), ((fl = 1 ∧ (¬ hsh = 0 ∧ (0 ≤ ch ∧ ch < hs 1) ∧ (0 ≤ i ∧ i < hs 0))) ∨ (fl = 0 ∧ ¬ (¬ hsh = 0 ∧ (0 ≤ ch ∧ ch < hs 1) ∧ (0 ≤ i ∧ i < hs 0)))) → JW x 0 0 53 [(0, .ref n0), (1, .int (iI ch)), (2, .int (iI i))] [.int (iI fl)] [(n0, oX12 0 dp my sm st sz mo ms yb hpk pkr rt rk rx hsh si gt va vn wd wa re ua pkk pxx bp mk bi pl cd rn rch rtn rdp rki rea rby rsh), (si, aI x.g 7 hs), (gt, aI x.g 800 gg)] := by
    intro fl hfl
    refine j_istore_n (lv' := [(3, .int (iI fl)), (0, .ref n0), (1, .int (iI ch)), (2, .int (iI i))]) jb dX12_got_53 rfl (by decide) rfl ?_
    refine j_aload_n jb dX12_got_54 1 rfl ?_
    refine j_iload_n jb dX12_got_55 0 rfl ?_
    refine j_if_eq (tgt := 63) jb dX12_got_56 (by decide) (by omega) (fun c_56 => ?_) (fun c_56 => ?_)
    · skip
      refine j_iconst jb dX12_got_63 ?_
      refine j_put (ws' := [(n0, oX12 1 dp my sm st sz mo ms yb hpk pkr rt rk rx hsh si gt va vn wd wa re ua pkk pxx bp mk bi pl cd rn rch rtn rdp rki rea rby rsh), (si, aI x.g 7 hs), (gt, aI x.g 800 gg)]) jb f_X12_1 w_X12_0 rfl dX12_got_64 0 rfl rfl rfl (Nat.le_of_ble_eq_true rfl) rfl ?_
      refine j_iload_n jb dX12_got_67 0 rfl ?_
      refine j_if_eq (tgt := 86) jb dX12_got_68 (by decide) (by omega) (fun c_68 => ?_) (fun c_68 => ?_)
      · skip
        refine j_iconst jb dX12_got_86 ?_
        refine j_norm (lv' := []) (st' := [.int (iI 0)]) (ws' := [(n0, oX12 1 dp my sm st sz mo ms yb hpk pkr rt rk rx hsh si gt va vn wd wa re ua pkk pxx bp mk bi pl cd rn rch rtn rdp rki rea rby rsh), (si, aI x.g 7 hs), (gt, aI x.g 800 gg)]) [] [0, 1, 2] rfl rfl (by decide) rfl ?_
        exact j_iret jb jr dX12_got_87 ⟨_, _, rfl, rfl, (by omega)⟩
      · skip
        have hh1 := hh0 (by omega)
        refine j_aload_n jb dX12_got_71 1 rfl ?_
        refine j_get jb f_X12_44 dX12_got_72 0 rfl rfl ?_
        refine j_sipush jb dX12_got_75 (by decide) ?_
        refine j_iload_n jb dX12_got_78 2 rfl ?_
        refine j_imul jb dX12_got_79 ?_
        refine j_iload_n jb dX12_got_80 3 rfl ?_
        refine j_iadd jb dX12_got_81 ?_
        refine j_iald jb dX12_got_82 2 rfl (by omega) (by decide) ?_
        refine j_goto (tgt := 87) jb dX12_got_83 (by decide) ?_
        refine j_norm (lv' := []) (st' := [.int (iI (gg ((400 * ch) + i)))]) (ws' := [(n0, oX12 1 dp my sm st sz mo ms yb hpk pkr rt rk rx hsh si gt va vn wd wa re ua pkk pxx bp mk bi pl cd rn rch rtn rdp rki rea rby rsh), (si, aI x.g 7 hs), (gt, aI x.g 800 gg)]) [] [0, 1, 2] rfl rfl (by decide) rfl ?_
        exact j_iret jb jr dX12_got_87 ⟨_, _, rfl, rfl, (by omega)⟩
    · skip
      refine j_iconst jb dX12_got_59 ?_
      refine j_goto (tgt := 64) jb dX12_got_60 (by decide) ?_
      refine j_put (ws' := [(n0, oX12 0 dp my sm st sz mo ms yb hpk pkr rt rk rx hsh si gt va vn wd wa re ua pkk pxx bp mk bi pl cd rn rch rtn rdp rki rea rby rsh), (si, aI x.g 7 hs), (gt, aI x.g 800 gg)]) jb f_X12_1 w_X12_0 rfl dX12_got_64 0 rfl rfl rfl (Nat.le_of_ble_eq_true rfl) rfl ?_
      refine j_iload_n jb dX12_got_67 0 rfl ?_
      refine j_if_eq (tgt := 86) jb dX12_got_68 (by decide) (by omega) (fun c_68 => ?_) (fun c_68 => ?_)
      · skip
        refine j_iconst jb dX12_got_86 ?_
        refine j_norm (lv' := []) (st' := [.int (iI 0)]) (ws' := [(n0, oX12 0 dp my sm st sz mo ms yb hpk pkr rt rk rx hsh si gt va vn wd wa re ua pkk pxx bp mk bi pl cd rn rch rtn rdp rki rea rby rsh), (si, aI x.g 7 hs), (gt, aI x.g 800 gg)]) [] [0, 1, 2] rfl rfl (by decide) rfl ?_
        exact j_iret jb jr dX12_got_87 ⟨_, _, rfl, rfl, (by omega)⟩
      · skip
        have hh1 := hh0 (by omega)
        refine j_aload_n jb dX12_got_71 1 rfl ?_
        refine j_get jb f_X12_44 dX12_got_72 0 rfl rfl ?_
        refine j_sipush jb dX12_got_75 (by decide) ?_
        refine j_iload_n jb dX12_got_78 2 rfl ?_
        refine j_imul jb dX12_got_79 ?_
        refine j_iload_n jb dX12_got_80 3 rfl ?_
        refine j_iadd jb dX12_got_81 ?_
        refine j_iald jb dX12_got_82 2 rfl (by omega) (by decide) ?_
        refine j_goto (tgt := 87) jb dX12_got_83 (by decide) ?_
        refine j_norm (lv' := []) (st' := [.int (iI (gg ((400 * ch) + i)))]) (ws' := [(n0, oX12 0 dp my sm st sz mo ms yb hpk pkr rt rk rx hsh si gt va vn wd wa re ua pkk pxx bp mk bi pl cd rn rch rtn rdp rki rea rby rsh), (si, aI x.g 7 hs), (gt, aI x.g 800 gg)]) [] [0, 1, 2] rfl rfl (by decide) rfl ?_
        exact j_iret jb jr dX12_got_87 ⟨_, _, rfl, rfl, (by omega)⟩
  refine j_if_eq (tgt := 52) jb dX12_got_9 (by decide) (by omega) (fun c_9 => ?_) (fun c_9 => ?_)
  · skip
    refine j_iconst jb dX12_got_52 ?_
    refine j_norm (lv' := [(0, .ref n0), (1, .int (iI ch)), (2, .int (iI i))]) (st' := [.int (iI 0)]) (ws' := [(n0, oX12 0 dp my sm st sz mo ms yb hpk pkr rt rk rx hsh si gt va vn wd wa re ua pkk pxx bp mk bi pl cd rn rch rtn rdp rki rea rby rsh), (si, aI x.g 7 hs), (gt, aI x.g 800 gg)]) [0, 1, 2] [0, 1, 2] rfl rfl (by decide) rfl ?_
    exact J53 0 (by omega)
  · skip
    have hh1 := hh0 (by omega)
    refine j_iload_n jb dX12_got_12 1 rfl ?_
    refine j_i2l jb dX12_got_13 (by omega) ?_
    refine j_lconst (z := 0) jb dX12_got_14 rfl ?_
    refine j_aload_n jb dX12_got_15 0 rfl ?_
    refine j_get jb f_X12_41 dX12_got_16 0 rfl rfl ?_
    refine j_iconst jb dX12_got_19 ?_
    refine j_iald jb dX12_got_20 1 rfl (by omega) (by decide) ?_
    refine j_iconst jb dX12_got_21 ?_
    refine j_isub jb dX12_got_22 ?_
    refine j_i2l jb dX12_got_23 (by omega) ?_
    refine j_callS (wr := [(n0, oX12 0 dp my sm st sz mo ms yb hpk pkr rt rk rx hsh si gt va vn wd wa re ua pkk pxx bp mk bi pl cd rn rch rtn rdp rki rea rby rsh), (si, aI x.g 7 hs), (gt, aI x.g 800 gg)]) jb k_X12_in t_X12_in l_X12_72 (C_X12_in x.l x.g ch 0 ((hs 1) - 1) (by omega) (by omega) (by omega)) [] [0, 1, 2] (by decide) rfl rfl (by decide) (by decide) rfl rfl (Nat.le_of_ble_eq_true rfl) (by decide) dX12_got_24 (fun v w hp => ?_)
    obtain ⟨rfl, rfl⟩ := hp
    refine j_norm (lv' := [(0, .ref n0), (1, .int (iI ch)), (2, .int (iI i))]) (st' := [.int (iI (b2i (0 ≤ ch ∧ ch ≤ ((hs 1) - 1))))]) (ws' := [(n0, oX12 0 dp my sm st sz mo ms yb hpk pkr rt rk rx hsh si gt va vn wd wa re ua pkk pxx bp mk bi pl cd rn rch rtn rdp rki rea rby rsh), (si, aI x.g 7 hs), (gt, aI x.g 800 gg)]) [0, 1, 2] [0, 1, 2] rfl rfl (by decide) rfl ?_
    refine j_ifb_eq (tgt := 52) jb dX12_got_27 (by decide) (fun c_27 => ?_) (fun c_27 => ?_)
    · skip
      refine j_iconst jb dX12_got_52 ?_
      refine j_norm (lv' := [(0, .ref n0), (1, .int (iI ch)), (2, .int (iI i))]) (st' := [.int (iI 0)]) (ws' := [(n0, oX12 0 dp my sm st sz mo ms yb hpk pkr rt rk rx hsh si gt va vn wd wa re ua pkk pxx bp mk bi pl cd rn rch rtn rdp rki rea rby rsh), (si, aI x.g 7 hs), (gt, aI x.g 800 gg)]) [0, 1, 2] [0, 1, 2] rfl rfl (by decide) rfl ?_
      exact J53 0 (by omega)
    · skip
      refine j_iload_n jb dX12_got_30 2 rfl ?_
      refine j_i2l jb dX12_got_31 (by omega) ?_
      refine j_lconst (z := 0) jb dX12_got_32 rfl ?_
      refine j_aload_n jb dX12_got_33 0 rfl ?_
      refine j_get jb f_X12_41 dX12_got_34 0 rfl rfl ?_
      refine j_iconst jb dX12_got_37 ?_
      refine j_iald jb dX12_got_38 1 rfl (by omega) (by decide) ?_
      refine j_iconst jb dX12_got_39 ?_
      refine j_isub jb dX12_got_40 ?_
      refine j_i2l jb dX12_got_41 (by omega) ?_
      refine j_callS (wr := [(n0, oX12 0 dp my sm st sz mo ms yb hpk pkr rt rk rx hsh si gt va vn wd wa re ua pkk pxx bp mk bi pl cd rn rch rtn rdp rki rea rby rsh), (si, aI x.g 7 hs), (gt, aI x.g 800 gg)]) jb k_X12_in t_X12_in l_X12_72 (C_X12_in x.l x.g i 0 ((hs 0) - 1) (by omega) (by omega) (by omega)) [] [0, 1, 2] (by decide) rfl rfl (by decide) (by decide) rfl rfl (Nat.le_of_ble_eq_true rfl) (by decide) dX12_got_42 (fun v w hp => ?_)
      obtain ⟨rfl, rfl⟩ := hp
      refine j_norm (lv' := [(0, .ref n0), (1, .int (iI ch)), (2, .int (iI i))]) (st' := [.int (iI (b2i (0 ≤ i ∧ i ≤ ((hs 0) - 1))))]) (ws' := [(n0, oX12 0 dp my sm st sz mo ms yb hpk pkr rt rk rx hsh si gt va vn wd wa re ua pkk pxx bp mk bi pl cd rn rch rtn rdp rki rea rby rsh), (si, aI x.g 7 hs), (gt, aI x.g 800 gg)]) [0, 1, 2] [0, 1, 2] rfl rfl (by decide) rfl ?_
      refine j_ifb_eq (tgt := 52) jb dX12_got_45 (by decide) (fun c_45 => ?_) (fun c_45 => ?_)
      · skip
        refine j_iconst jb dX12_got_52 ?_
        refine j_norm (lv' := [(0, .ref n0), (1, .int (iI ch)), (2, .int (iI i))]) (st' := [.int (iI 0)]) (ws' := [(n0, oX12 0 dp my sm st sz mo ms yb hpk pkr rt rk rx hsh si gt va vn wd wa re ua pkk pxx bp mk bi pl cd rn rch rtn rdp rki rea rby rsh), (si, aI x.g 7 hs), (gt, aI x.g 800 gg)]) [0, 1, 2] [0, 1, 2] rfl rfl (by decide) rfl ?_
        exact J53 0 (by omega)
      · skip
        refine j_iconst jb dX12_got_48 ?_
        refine j_goto (tgt := 53) jb dX12_got_49 (by decide) ?_
        refine j_norm (lv' := [(0, .ref n0), (1, .int (iI ch)), (2, .int (iI i))]) (st' := [.int (iI 1)]) (ws' := [(n0, oX12 0 dp my sm st sz mo ms yb hpk pkr rt rk rx hsh si gt va vn wd wa re ua pkk pxx bp mk bi pl cd rn rch rtn rdp rki rea rby rsh), (si, aI x.g 7 hs), (gt, aI x.g 800 gg)]) [0, 1, 2] [0, 1, 2] rfl rfl (by decide) rfl ?_
        exact J53 1 (by omega)

set_option maxHeartbeats 4000000 in
set_option maxRecDepth 100000 in
theorem C_X12_take (l : Launch) (g : GG) (n0 my sm st yb pkr rt rk rx si gt va re ua mk rki rea rby : Nat) (th dp sz mo ms hpk hsh vn wd wa pkk pxx bp bi pl cd rn rch rtn rdp rsh : Int) (cn ss hs gg : Int → Int) (hh : 0 ≤ hsh ∧ hsh ≤ 1) (hh1 : inR (hs 1)) : Ctr l g yX12_take cX12_take 2 (some .int) 0 0 0 0 [.ref n0] [(n0, oX12 th dp my sm st sz mo ms yb hpk pkr rt rk rx hsh si gt va vn wd wa re ua pkk pxx bp mk bi pl cd rn rch rtn rdp rki rea rby rsh), (my, aI g 2 cn), (sm, aI g 800 ss), (si, aI g 7 hs), (gt, aI g 800 gg)] (fun vv ww => ∃ (r dp2 : Int) (cn2 ss2 : Int → Int), vv = some (.int (iI r)) ∧ ww = [(n0, oX12 0 dp2 my sm st sz mo ms yb hpk pkr rt rk rx hsh si gt va vn wd wa re ua pkk pxx bp mk bi pl cd rn rch rtn rdp rki rea rby rsh), (my, aI g 2 cn2), (sm, aI g 800 ss2), (si, aI g 7 hs), (gt, aI g 800 gg)] ∧ (hsh = 0 → r = -3 ∧ dp2 = dp ∧ cn2 = cn ∧ ss2 = ss) ∧ (¬ hsh = 0 → r = hs 0 ∧ dp2 = hs 3 ∧ cn2 0 = hs 0 ∧ cn2 1 = (if hs 1 = 2 then hs 0 else 0) ∧ ∀ j, 0 ≤ j → j < 800 → ss2 j = gg j)) := by
  refine Ctr.of [(0, .ref n0)] (by decide) (Nat.le_of_ble_eq_true rfl) rfl ?_
  intro x hxl hxg jb jr hin
  subst hxl; subst hxg
  refine j_aload_n jb dX12_take_0 0 rfl ?_
  refine j_iconst jb dX12_take_1 ?_
  refine j_put (ws' := [(n0, oX12 0 dp my sm st sz mo ms yb hpk pkr rt rk rx hsh si gt va vn wd wa re ua pkk pxx bp mk bi pl cd rn rch rtn rdp rki rea rby rsh), (my, aI x.g 2 cn), (sm, aI x.g 800 ss), (si, aI x.g 7 hs), (gt, aI x.g 800 gg)]) jb f_X12_1 w_X12_0 rfl dX12_take_2 0 rfl rfl rfl (Nat.le_of_ble_eq_true rfl) rfl ?_
  refine j_aload_n jb dX12_take_5 0 rfl ?_
  refine j_get jb f_X12_259 dX12_take_6 0 rfl rfl ?_
  refine j_if_ne (tgt := 15) jb dX12_take_9 (by decide) (by omega) (fun c_9 => ?_) (fun c_9 => ?_)
  · skip
    refine j_aload_n jb dX12_take_15 0 rfl ?_
    refine j_aload_n jb dX12_take_16 0 rfl ?_
    refine j_get jb f_X12_41 dX12_take_17 0 rfl rfl ?_
    refine j_iconst jb dX12_take_20 ?_
    refine j_iald jb dX12_take_21 3 rfl (by omega) (by decide) ?_
    refine j_put (ws' := [(n0, oX12 0 (hs 3) my sm st sz mo ms yb hpk pkr rt rk rx hsh si gt va vn wd wa re ua pkk pxx bp mk bi pl cd rn rch rtn rdp rki rea rby rsh), (my, aI x.g 2 cn), (sm, aI x.g 800 ss), (si, aI x.g 7 hs), (gt, aI x.g 800 gg)]) jb f_X12_13 w_X12_1 rfl dX12_take_22 0 rfl rfl rfl (Nat.le_of_ble_eq_true rfl) rfl ?_
    refine j_aload_n jb dX12_take_25 0 rfl ?_
    refine j_get jb f_X12_16 dX12_take_26 0 rfl rfl ?_
    refine j_iconst jb dX12_take_29 ?_
    refine j_aload_n jb dX12_take_30 0 rfl ?_
    refine j_get jb f_X12_41 dX12_take_31 0 rfl rfl ?_
    refine j_iconst jb dX12_take_34 ?_
    refine j_iald jb dX12_take_35 3 rfl (by omega) (by decide) ?_
    refine j_iast (ws' := [(n0, oX12 0 (hs 3) my sm st sz mo ms yb hpk pkr rt rk rx hsh si gt va vn wd wa re ua pkk pxx bp mk bi pl cd rn rch rtn rdp rki rea rby rsh), (my, aI x.g 2 (zup cn 0 (hs 0))), (sm, aI x.g 800 ss), (si, aI x.g 7 hs), (gt, aI x.g 800 gg)]) jb dX12_take_36 1 rfl (by omega) (by decide) rfl ?_
    refine j_aload_n jb dX12_take_37 0 rfl ?_
    refine j_get jb f_X12_16 dX12_take_38 0 rfl rfl ?_
    refine j_iconst jb dX12_take_41 ?_
    refine j_aload_n jb dX12_take_42 0 rfl ?_
    refine j_get jb f_X12_41 dX12_take_43 0 rfl rfl ?_
    refine j_iconst jb dX12_take_46 ?_
    refine j_iald jb dX12_take_47 3 rfl (by omega) (by decide) ?_
    refine j_iconst jb dX12_take_48 ?_
    have J62 : ∀ (m1 : Int), m1 = (if hs 1 = 2 then hs 0 else 0) → JW x 0 0 62 [(0, .ref n0)] [.int (iI m1), .int (iI 1), .ref my] [(n0, oX12 0 (hs 3) my sm st sz mo ms yb hpk pkr rt rk rx hsh si gt va vn wd wa re ua pkk pxx bp mk bi pl cd rn rch rtn rdp rki rea rby rsh), (my, aI x.g 2 (zup cn 0 (hs 0))), (sm, aI x.g 800 ss), (si, aI x.g 7 hs), (gt, aI x.g 800 gg)] := by
      intro m1 hm1
      refine j_iast (ws' := [(n0, oX12 0 (hs 3) my sm st sz mo ms yb hpk pkr rt rk rx hsh si gt va vn wd wa re ua pkk pxx bp mk bi pl cd rn rch rtn rdp rki rea rby rsh), (my, aI x.g 2 (zup (zup cn 0 (hs 0)) 1 m1)), (sm, aI x.g 800 ss), (si, aI x.g 7 hs), (gt, aI x.g 800 gg)]) jb dX12_take_62 1 rfl (by omega) (by decide) rfl ?_
      refine j_iconst jb dX12_take_63 ?_
      refine j_istore_n (lv' := [(1, .int (iI 0)), (0, .ref n0)]) jb dX12_take_64 rfl (by decide) rfl ?_
      have L65 : ∀ (fu : Nat) (i : Int) (s1 : Int → Int), (0 ≤ i ∧ i ≤ 800 ∧ ∀ j, 0 ≤ j → j < i → s1 j = gg j) → (800 - i).toNat < fu → JW x 0 0 65 [(0, .ref n0), (1, .int (iI i))] [] [(n0, oX12 0 (hs 3) my sm st sz mo ms yb hpk pkr rt rk rx hsh si gt va vn wd wa re ua pkk pxx bp mk bi pl cd rn rch rtn rdp rki rea rby rsh), (my, aI x.g 2 (zup (zup cn 0 (hs 0)) 1 m1)), (sm, aI x.g 800 s1), (si, aI x.g 7 hs), (gt, aI x.g 800 gg)] := by
        intro fu
        induction fu with
        | zero => intro i s1 _ hm; exact absurd hm (by omega)
        | succ fu ih =>
          intro i s1 ⟨hi1, hi2, hi3⟩ hm65
          have ih65 := ih
          clear ih
          refine j_iload_n jb dX12_take_65 1 rfl ?_
          refine j_sipush jb dX12_take_66 (by decide) ?_
          refine j_icmp_ge (tgt := 90) jb dX12_take_69 (by decide) (by omega) (by omega) (fun c_69 => ?_) (fun c_69 => ?_)
          · skip
            refine j_aload_n jb dX12_take_90 0 rfl ?_
            refine j_get jb f_X12_16 dX12_take_91 0 rfl rfl ?_
            refine j_iconst jb dX12_take_94 ?_
            refine j_iald jb dX12_take_95 1 rfl (by omega) (by decide) ?_
            refine j_norm (lv' := []) (st' := [.int (iI ((zup (zup cn 0 (hs 0)) 1 m1) 0))]) (ws' := [(n0, oX12 0 (hs 3) my sm st sz mo ms yb hpk pkr rt rk rx hsh si gt va vn wd wa re ua pkk pxx bp mk bi pl cd rn rch rtn rdp rki rea rby rsh), (my, aI x.g 2 (zup (zup cn 0 (hs 0)) 1 m1)), (sm, aI x.g 800 s1), (si, aI x.g 7 hs), (gt, aI x.g 800 gg)]) [] [0, 1, 2, 3, 4] rfl rfl (by decide) rfl ?_
            exact j_iret jb jr dX12_take_96 ⟨_, _, _, _, rfl, rfl, ⟨fun q => absurd q (by omega), fun _ => ⟨rfl, rfl, rfl, hm1, fun j a b => hi3 j a (by omega)⟩⟩⟩
          · skip
            refine j_aload_n jb dX12_take_72 0 rfl ?_
            refine j_get jb f_X12_20 dX12_take_73 0 rfl rfl ?_
            refine j_iload_n jb dX12_take_76 1 rfl ?_
            refine j_aload_n jb dX12_take_77 0 rfl ?_
            refine j_get jb f_X12_44 dX12_take_78 0 rfl rfl ?_
            refine j_iload_n jb dX12_take_81 1 rfl ?_
            refine j_iald jb dX12_take_82 4 rfl (by omega) (by decide) ?_
            refine j_iast (ws' := [(n0, oX12 0 (hs 3) my sm st sz mo ms yb hpk pkr rt rk rx hsh si gt va vn wd wa re ua pkk pxx bp mk bi pl cd rn rch rtn rdp rki rea rby rsh), (my, aI x.g 2 (zup (zup cn 0 (hs 0)) 1 m1)), (sm, aI x.g 800 (zup s1 i (gg i))), (si, aI x.g 7 hs), (gt, aI x.g 800 gg)]) jb dX12_take_83 2 rfl (by omega) (by decide) rfl ?_
            refine j_iinc (lv' := [(1, .int (iI (i + 1))), (0, .ref n0)]) jb dX12_take_84 1 rfl (by decide) rfl ?_
            refine j_goto (tgt := 65) jb dX12_take_87 (by decide) ?_
            refine j_norm (lv' := [(0, .ref n0), (1, .int (iI (i + 1)))]) (st' := []) (ws' := [(n0, oX12 0 (hs 3) my sm st sz mo ms yb hpk pkr rt rk rx hsh si gt va vn wd wa re ua pkk pxx bp mk bi pl cd rn rch rtn rdp rki rea rby rsh), (my, aI x.g 2 (zup (zup cn 0 (hs 0)) 1 m1)), (sm, aI x.g 800 (zup s1 i (gg i))), (si, aI x.g 7 hs), (gt, aI x.g 800 gg)]) [1, 0] [0, 1, 2, 3, 4] rfl rfl (by decide) rfl ?_
            exact ih65 (i + 1) (zup s1 i (gg i)) ⟨by omega, by omega, fun j a b => by (by_cases e : j = i); { rw [e, zup_s] }; { rw [zup_n e]; exact hi3 j a (by omega) }⟩ (by omega)
      refine j_norm (lv' := [(0, .ref n0), (1, .int (iI 0))]) (st' := []) (ws' := [(n0, oX12 0 (hs 3) my sm st sz mo ms yb hpk pkr rt rk rx hsh si gt va vn wd wa re ua pkk pxx bp mk bi pl cd rn rch rtn rdp rki rea rby rsh), (my, aI x.g 2 (zup (zup cn 0 (hs 0)) 1 m1)), (sm, aI x.g 800 ss), (si, aI x.g 7 hs), (gt, aI x.g 800 gg)]) [1, 0] [0, 1, 2, 3, 4] rfl rfl (by decide) rfl ?_
      exact L65 _ 0 ss ⟨by decide, by decide, fun j a b => by omega⟩ (Nat.lt_succ_self _)
    refine j_icmp_ne (tgt := 61) jb dX12_take_49 (by decide) (by omega) (by omega) (fun c_49 => ?_) (fun c_49 => ?_)
    · skip
      refine j_iconst jb dX12_take_61 ?_
      refine j_norm (lv' := [(0, .ref n0)]) (st' := [.int (iI 0), .int (iI 1), .ref my]) (ws' := [(n0, oX12 0 (hs 3) my sm st sz mo ms yb hpk pkr rt rk rx hsh si gt va vn wd wa re ua pkk pxx bp mk bi pl cd rn rch rtn rdp rki rea rby rsh), (my, aI x.g 2 (zup cn 0 (hs 0))), (sm, aI x.g 800 ss), (si, aI x.g 7 hs), (gt, aI x.g 800 gg)]) [0] [0, 1, 2, 3, 4] rfl rfl (by decide) rfl ?_
      exact J62 0 (by first | (rw [if_pos c_49]; done) | (rw [if_neg c_49]; done))
    · skip
      refine j_aload_n jb dX12_take_52 0 rfl ?_
      refine j_get jb f_X12_41 dX12_take_53 0 rfl rfl ?_
      refine j_iconst jb dX12_take_56 ?_
      refine j_iald jb dX12_take_57 3 rfl (by omega) (by decide) ?_
      refine j_goto (tgt := 62) jb dX12_take_58 (by decide) ?_
      refine j_norm (lv' := [(0, .ref n0)]) (st' := [.int (iI (hs 0)), .int (iI 1), .ref my]) (ws' := [(n0, oX12 0 (hs 3) my sm st sz mo ms yb hpk pkr rt rk rx hsh si gt va vn wd wa re ua pkk pxx bp mk bi pl cd rn rch rtn rdp rki rea rby rsh), (my, aI x.g 2 (zup cn 0 (hs 0))), (sm, aI x.g 800 ss), (si, aI x.g 7 hs), (gt, aI x.g 800 gg)]) [0] [0, 1, 2, 3, 4] rfl rfl (by decide) rfl ?_
      exact J62 (hs 0) (by first | (rw [if_pos c_49]; done) | (rw [if_neg c_49]; done))
  · skip
    refine j_bipush jb dX12_take_12 (by decide) ?_
    refine j_norm (lv' := []) (st' := [.int (iI (-3))]) (ws' := [(n0, oX12 0 dp my sm st sz mo ms yb hpk pkr rt rk rx hsh si gt va vn wd wa re ua pkk pxx bp mk bi pl cd rn rch rtn rdp rki rea rby rsh), (my, aI x.g 2 cn), (sm, aI x.g 800 ss), (si, aI x.g 7 hs), (gt, aI x.g 800 gg)]) [] [0, 1, 2, 3, 4] rfl rfl (by decide) rfl ?_
    exact j_iret jb jr dX12_take_14 ⟨_, _, _, _, rfl, rfl, ⟨fun _ => ⟨rfl, rfl, rfl, rfl⟩, fun q => absurd (by omega) q⟩⟩

