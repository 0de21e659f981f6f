set_option maxHeartbeats 4000000 in
set_option maxRecDepth 100000 in
theorem C_X12_wrong (l : Launch) (g : GG) (n0 my sm st yb pkr rt rk rx si gt va re ua mk rki rea rby : Nat) (th dp sz mo ms hpk hsh vn wd wa pkk pxx bp bi pl cd rn rch rtn rdp rsh : Int) (er : Int) (hcd : 0 ≤ cd ∧ cd ≤ 20) : Ctr l g yX12_wrong cX12_wrong 2 none 0 0 0 0 [.ref n0, .int (iI er)] [(n0, oX12 th dp my sm st sz mo ms yb hpk pkr rt rk rx hsh si gt va vn wd wa re ua pkk pxx bp mk bi pl cd rn rch rtn rdp rki rea rby rsh)] (fun vv ww => ∃ (cd2 : Int), vv = none ∧ ww = [(n0, oX12 th dp my sm st sz mo ms yb hpk pkr rt rk rx hsh si gt va vn wd wa re ua pkk pxx bp mk bi pl cd2 rn rch rtn rdp rki rea rby rsh)] ∧ cd2 = fltIf 1 cd er) := by
  refine Ctr.of [(0, .ref n0), (1, .int (iI er))] (by decide) (Nat.le_of_ble_eq_true rfl) rfl ?_
  intro x hxl hxg jb jr hin
  subst hxl; subst hxg
  refine j_aload_n jb dX12_wrong_0 0 rfl ?_
  refine j_aload_n jb dX12_wrong_1 0 rfl ?_
  refine j_get jb f_X12_202 dX12_wrong_2 0 rfl rfl ?_
  refine j_if_ne (tgt := 12) jb dX12_wrong_5 (by decide) (by omega) (fun c_5 => ?_) (fun c_5 => ?_)
  · skip
    refine j_aload_n jb dX12_wrong_12 0 rfl ?_
    refine j_get jb f_X12_202 dX12_wrong_13 0 rfl rfl ?_
    refine j_put (ws' := [(n0, oX12 th dp my sm st sz mo ms yb hpk pkr rt rk rx hsh si gt va vn wd wa re ua pkk pxx bp mk bi pl cd rn rch rtn rdp rki rea rby rsh)]) jb f_X12_202 w_X12_29 rfl dX12_wrong_16 0 rfl rfl rfl (Nat.le_of_ble_eq_true rfl) rfl ?_
    refine j_norm (lv' := []) (st' := []) (ws' := [(n0, oX12 th dp my sm st sz mo ms yb hpk pkr rt rk rx hsh si gt va vn wd wa re ua pkk pxx bp mk bi pl cd rn rch rtn rdp rki rea rby rsh)]) [] [0] rfl rfl (by decide) rfl ?_
    exact j_vret jb jr dX12_wrong_19 ⟨_, rfl, rfl, (by rw [← flt_yes]; first | (rw [if_pos (by omega)]; done) | (rw [if_neg (by omega)]; done))⟩
  · skip
    refine j_iload_n jb dX12_wrong_8 1 rfl ?_
    refine j_goto (tgt := 16) jb dX12_wrong_9 (by decide) ?_
    refine j_put (ws' := [(n0, oX12 th dp my sm st sz mo ms yb hpk pkr rt rk rx hsh si gt va vn wd wa re ua pkk pxx bp mk bi pl er rn rch rtn rdp rki rea rby rsh)]) jb f_X12_202 w_X12_29 rfl dX12_wrong_16 0 rfl rfl rfl (Nat.le_of_ble_eq_true rfl) rfl ?_
    refine j_norm (lv' := []) (st' := []) (ws' := [(n0, oX12 th dp my sm st sz mo ms yb hpk pkr rt rk rx hsh si gt va vn wd wa re ua pkk pxx bp mk bi pl er rn rch rtn rdp rki rea rby rsh)]) [] [0] rfl rfl (by decide) rfl ?_
    exact j_vret jb jr dX12_wrong_19 ⟨_, rfl, rfl, (by rw [← flt_yes]; first | (rw [if_pos (by omega)]; done) | (rw [if_neg (by omega)]; done))⟩

set_option maxHeartbeats 4000000 in
set_option maxRecDepth 100000 in
theorem C_X12_bit (l : Launch) (g : GG) (n0 my sm st yb pkr rt rk rx si gt va re ua mk rki rea rby : Nat) (th dp sz mo ms hpk hsh vn wd wa pkk pxx bp bi pl cd rn rch rtn rdp rsh : Int) (B : Int → Int) (hB : isBytes B) (hl : 0 ≤ sz ∧ sz ≤ 2400) (hcd : 0 ≤ cd ∧ cd ≤ 20) (hp : 0 ≤ pl ∧ pl ≤ 8 * sz) : Ctr l g yX12_bit cX12_bit 1 (some .int) 1 30 0 0 [.ref n0] [(n0, oX12 th dp my sm st sz mo ms yb hpk pkr rt rk rx hsh si gt va vn wd wa re ua pkk pxx bp mk bi pl cd rn rch rtn rdp rki rea rby rsh), (st, aI g 2400 B)] (fun vv ww => ∃ (r cd2 pl2 : Int), vv = some (.int (iI r)) ∧ ww = [(n0, oX12 th dp my sm st sz mo ms yb hpk pkr rt rk rx hsh si gt va vn wd wa re ua pkk pxx bp mk bi pl2 cd2 rn rch rtn rdp rki rea rby rsh), (st, aI g 2400 B)] ∧ rdB B sz cd pl r cd2 pl2) := by
  refine Ctr.of [(0, .ref n0)] (by decide) (Nat.le_of_ble_eq_true rfl) rfl ?_
  intro x hxl hxg jb jr hin
  subst hxl; subst hxg
  refine j_aload_n jb dX12_bit_0 0 rfl ?_
  refine j_get jb f_X12_202 dX12_bit_1 0 rfl rfl ?_
  refine j_if_eq (tgt := 9) jb dX12_bit_4 (by decide) (by omega) (fun c_4 => ?_) (fun c_4 => ?_)
  · skip
    refine j_aload_n jb dX12_bit_9 0 rfl ?_
    refine j_get jb f_X12_205 dX12_bit_10 0 rfl rfl ?_
    refine j_bipush jb dX12_bit_13 (by decide) ?_
    refine j_aload_n jb dX12_bit_15 0 rfl ?_
    refine j_get jb f_X12_69 dX12_bit_16 0 rfl rfl ?_
    refine j_imul jb dX12_bit_19 ?_
    refine j_icmp_lt (tgt := 30) jb dX12_bit_20 (by decide) (by omega) (by omega) (fun c_20 => ?_) (fun c_20 => ?_)
    · skip
      refine j_aload_n jb dX12_bit_30 0 rfl ?_
      refine j_dup jb dX12_bit_31 rfl ?_
      refine j_get jb f_X12_205 dX12_bit_32 0 rfl rfl ?_
      refine j_iconst jb dX12_bit_35 ?_
      refine j_iadd jb dX12_bit_36 ?_
      refine j_put (ws' := [(n0, oX12 th dp my sm st sz mo ms yb hpk pkr rt rk rx hsh si gt va vn wd wa re ua pkk pxx bp mk bi (pl + 1) cd rn rch rtn rdp rki rea rby rsh), (st, aI x.g 2400 B)]) jb f_X12_205 w_X12_28 rfl dX12_bit_37 0 rfl rfl rfl (Nat.le_of_ble_eq_true rfl) rfl ?_
      refine j_aload_n jb dX12_bit_40 0 rfl ?_
      refine j_get jb f_X12_23 dX12_bit_41 0 rfl rfl ?_
      refine j_aload_n jb dX12_bit_44 0 rfl ?_
      refine j_get jb f_X12_205 dX12_bit_45 0 rfl rfl ?_
      refine j_iconst jb dX12_bit_48 ?_
      refine j_isub jb dX12_bit_49 ?_
      refine j_bipush jb dX12_bit_50 (by decide) ?_
      refine j_idiv jb dX12_bit_52 (by omega) ?_
      refine j_iald jb dX12_bit_53 1 rfl (by omega) (by decide) ?_
      refine j_bipush jb dX12_bit_54 (by decide) ?_
      refine j_aload_n jb dX12_bit_56 0 rfl ?_
      refine j_get jb f_X12_205 dX12_bit_57 0 rfl rfl ?_
      refine j_iconst jb dX12_bit_60 ?_
      refine j_isub jb dX12_bit_61 ?_
      refine j_bipush jb dX12_bit_62 (by decide) ?_
      refine j_irem jb dX12_bit_64 (by omega) ?_
      refine j_isub jb dX12_bit_65 ?_
      refine j_ishr jb dX12_bit_66 (by have := hB ((pl + 1 - 1) / 8) (by omega) (by omega); omega) (by omega) ?_
      refine j_iconst jb dX12_bit_67 ?_
      refine j_iand jb dX12_bit_68 ?_
      refine j_topi (bitAt B pl) (by rw [zAnd_1]; unfold bitAt; rw [show pl + 1 - 1 = pl by omega]) ?_
      refine j_norm (lv' := []) (st' := [.int (iI (bitAt B pl))]) (ws' := [(n0, oX12 th dp my sm st sz mo ms yb hpk pkr rt rk rx hsh si gt va vn wd wa re ua pkk pxx bp mk bi (pl + 1) cd rn rch rtn rdp rki rea rby rsh), (st, aI x.g 2400 B)]) [] [0, 1] rfl rfl (by decide) rfl ?_
      exact j_iret jb jr dX12_bit_69 ⟨_, _, _, rfl, rfl, ⟨fun _ => ⟨by omega, rfl, rfl⟩, fun q => absurd (show cd = 0 ∧ pl < 8 * sz by omega) q⟩⟩
    · skip
      refine j_aload_n jb dX12_bit_23 0 rfl ?_
      refine j_iconst jb dX12_bit_24 ?_
      refine j_callV (wr := [(st, aI x.g 2400 B)]) jb k_X12_wrong i_X12_wrong s_X12_wrong l_X12_208 (C_X12_wrong x.l x.g n0 my sm st yb pkr rt rk rx si gt va re ua mk rki rea rby th dp sz mo ms hpk hsh vn wd wa pkk pxx bp bi pl cd rn rch rtn rdp rsh 1 (by omega)) 0 14 rfl rfl rfl [0] [1] (by decide) rfl rfl (by decide) (by decide) rfl rfl (Nat.le_of_ble_eq_true rfl) (by decide) dX12_bit_25 (fun v w hp => ?_)
      obtain ⟨cd3, rfl, rfl, h25⟩ := hp
      refine j_norm (lv' := [(0, .ref n0)]) (st' := []) (ws' := [(n0, oX12 th dp my sm st sz mo ms yb hpk pkr rt rk rx hsh si gt va vn wd wa re ua pkk pxx bp mk bi pl cd3 rn rch rtn rdp rki rea rby rsh), (st, aI x.g 2400 B)]) [0] [1, 0] rfl rfl (by decide) rfl ?_
      refine j_iconst jb dX12_bit_28 ?_
      refine j_norm (lv' := []) (st' := [.int (iI 0)]) (ws' := [(n0, oX12 th dp my sm st sz mo ms yb hpk pkr rt rk rx hsh si gt va vn wd wa re ua pkk pxx bp mk bi pl cd3 rn rch rtn rdp rki rea rby rsh), (st, aI x.g 2400 B)]) [] [0, 1] rfl rfl (by decide) rfl ?_
      exact j_iret jb jr dX12_bit_29 ⟨_, _, _, rfl, rfl, ⟨fun q => absurd q.2 (by omega), fun _ => ⟨by rw [h25, ← flt_yes], rfl, rfl⟩⟩⟩
  · skip
    refine j_iconst jb dX12_bit_7 ?_
    refine j_norm (lv' := []) (st' := [.int (iI 0)]) (ws' := [(n0, oX12 th dp my sm st sz mo ms yb hpk pkr rt rk rx hsh si gt va vn wd wa re ua pkk pxx bp mk bi pl cd rn rch rtn rdp rki rea rby rsh), (st, aI x.g 2400 B)]) [] [0, 1] rfl rfl (by decide) rfl ?_
    exact j_iret jb jr dX12_bit_8 ⟨_, _, _, rfl, rfl, ⟨fun q => absurd q.1 (by omega), fun _ => ⟨by rw [if_neg (by omega)], rfl, rfl⟩⟩⟩

set_option maxHeartbeats 4000000 in
set_option maxRecDepth 100000 in
theorem C_X12_number (l : Launch) (g : GG) (n0 my sm st yb pkr rt rk rx si gt va re ua mk rki rea rby : Nat) (th dp sz mo ms hpk hsh vn wd wa pkk pxx bp bi pl cd rn rch rtn rdp rsh : Int) (w : Int) (B : Int → Int) (hw : 0 ≤ w ∧ w ≤ 31) (hB : isBytes B) (hl : 0 ≤ sz ∧ sz ≤ 2400) (hcd : 0 ≤ cd ∧ cd ≤ 20) (hp : 0 ≤ pl ∧ pl ≤ 8 * sz) : Ctr l g yX12_number cX12_number 5 (some .long) 2 60 0 0 [.ref n0, .int (iI w)] [(n0, oX12 th dp my sm st sz mo ms yb hpk pkr rt rk rx hsh si gt va vn wd wa re ua pkk pxx bp mk bi pl cd rn rch rtn rdp rki rea rby rsh), (st, aI g 2400 B)] (fun vv ww => ∃ (r cd2 pl2 : Int), vv = some (.long (lI r)) ∧ ww = [(n0, oX12 th dp my sm st sz mo ms yb hpk pkr rt rk rx hsh si gt va vn wd wa re ua pkk pxx bp mk bi pl2 cd2 rn rch rtn rdp rki rea rby rsh), (st, aI g 2400 B)] ∧ rdM B sz cd pl w r cd2 pl2 ∧ (0 ≤ cd2 ∧ cd2 ≤ 20) ∧ (0 ≤ pl2 ∧ pl2 ≤ 8 * sz)) := by
  refine Ctr.of [(0, .ref n0), (1, .int (iI w))] (by decide) (Nat.le_of_ble_eq_true rfl) rfl ?_
  intro x hxl hxg jb jr hin
  subst hxl; subst hxg
  refine j_lconst (z := 0) jb dX12_number_0 rfl ?_
  refine j_lstore_n (lv' := [(2, .long (lI 0)), (0, .ref n0), (1, .int (iI w))]) jb dX12_number_1 rfl (by decide) rfl ?_
  refine j_iconst jb dX12_number_2 ?_
  refine j_istore (lv' := [(4, .int (iI 0)), (2, .long (lI 0)), (0, .ref n0), (1, .int (iI w))]) jb dX12_number_3 (by decide) rfl ?_
  have L5 : ∀ (fu : Nat) (v k cd1 pl1 : Int), (0 ≤ k ∧ k ≤ w ∧ rdM B sz cd pl k v cd1 pl1 ∧ (0 ≤ cd1 ∧ cd1 ≤ 20) ∧ (0 ≤ pl1 ∧ pl1 ≤ 8 * sz)) → (w - k).toNat < fu → JW x 0 0 5 [(0, .ref n0), (1, .int (iI w)), (2, .long (lI v)), (4, .int (iI k))] [] [(n0, oX12 th dp my sm st sz mo ms yb hpk pkr rt rk rx hsh si gt va vn wd wa re ua pkk pxx bp mk bi pl1 cd1 rn rch rtn rdp rki rea rby rsh), (st, aI x.g 2400 B)] := by
    intro fu
    induction fu with
    | zero => intro v k cd1 pl1 _ hm; exact absurd hm (by omega)
    | succ fu ih =>
      intro v k cd1 pl1 ⟨hk1, hk2, hk3, hk4, hk5⟩ hm5
      have ih5 := ih
      clear ih
      refine j_iload jb dX12_number_5 3 rfl ?_
      refine j_iload_n jb dX12_number_7 1 rfl ?_
      refine j_icmp_ge (tgt := 29) jb dX12_number_8 (by decide) (by omega) (by omega) (fun c_8 => ?_) (fun c_8 => ?_)
      · skip
        refine j_lload_n jb dX12_number_29 2 rfl ?_
        refine j_norm (lv' := []) (st' := [.long (lI v)]) (ws' := [(n0, oX12 th dp my sm st sz mo ms yb hpk pkr rt rk rx hsh si gt va vn wd wa re ua pkk pxx bp mk bi pl1 cd1 rn rch rtn rdp rki rea rby rsh), (st, aI x.g 2400 B)]) [] [0, 1] rfl rfl (by decide) rfl ?_
        exact j_lret jb jr dX12_number_30 ⟨_, _, _, rfl, rfl, (by rw [show w = k by omega]; exact ⟨hk3, hk4, hk5⟩)⟩
      · skip
        refine j_ldc2 (z := 2) jb q_X12_101 rfl dX12_number_11 ?_
        refine j_lload_n jb dX12_number_14 2 rfl ?_
        refine j_lmul jb dX12_number_15 ?_
        refine j_aload_n jb dX12_number_16 0 rfl ?_
        refine j_callV (wr := []) jb k_X12_bit i_X12_bit s_X12_bit l_X12_211 (C_X12_bit x.l x.g n0 my sm st yb pkr rt rk rx si gt va re ua mk rki rea rby th dp sz mo ms hpk hsh vn wd wa pkk pxx bp bi pl1 cd1 rn rch rtn rdp rsh B hB (by omega) (by omega) (by omega)) 0 14 rfl rfl rfl [0, 1] [] (by decide) rfl rfl (by decide) (by decide) rfl rfl (Nat.le_of_ble_eq_true rfl) (by decide) dX12_number_17 (fun v w hp => ?_)
        obtain ⟨bt, cd3, pl3, rfl, rfl, h17⟩ := hp
        refine j_norm (lv' := [(0, .ref n0), (1, .int (iI w)), (2, .long (lI v)), (4, .int (iI k))]) (st' := [.int (iI bt), .long (lI (2 * v))]) (ws' := [(n0, oX12 th dp my sm st sz mo ms yb hpk pkr rt rk rx hsh si gt va vn wd wa re ua pkk pxx bp mk bi pl3 cd3 rn rch rtn rdp rki rea rby rsh), (st, aI x.g 2400 B)]) [0, 1, 2, 3] [0, 1] rfl rfl (by decide) rfl ?_
        have hb9 := rdB_in h17
        have hst := rdM_step hk1 hk3 h17
        have hfa := rdM_fa hst
        have hpp := hst.2.2.2.2
        refine j_i2l jb dX12_number_20 (by omega) ?_
        refine j_ladd jb dX12_number_21 ?_
        refine j_lstore_n (lv' := [(2, .long (lI ((2 * v) + bt))), (0, .ref n0), (1, .int (iI w)), (4, .int (iI k))]) jb dX12_number_22 rfl (by decide) rfl ?_
        refine j_iinc (lv' := [(4, .int (iI (k + 1))), (2, .long (lI ((2 * v) + bt))), (0, .ref n0), (1, .int (iI w))]) jb dX12_number_23 3 rfl (by decide) rfl ?_
        refine j_goto (tgt := 5) jb dX12_number_26 (by decide) ?_
        refine j_norm (lv' := [(0, .ref n0), (1, .int (iI w)), (2, .long (lI ((2 * v) + bt))), (4, .int (iI (k + 1)))]) (st' := []) (ws' := [(n0, oX12 th dp my sm st sz mo ms yb hpk pkr rt rk rx hsh si gt va vn wd wa re ua pkk pxx bp mk bi pl3 cd3 rn rch rtn rdp rki rea rby rsh), (st, aI x.g 2400 B)]) [2, 3, 1, 0] [0, 1] rfl rfl (by decide) rfl ?_
        exact ih5 ((2 * v) + bt) (k + 1) cd3 pl3 ⟨by omega, by omega, hst, by omega, by omega⟩ (by omega)
  refine j_norm (lv' := [(0, .ref n0), (1, .int (iI w)), (2, .long (lI 0)), (4, .int (iI 0))]) (st' := []) (ws' := [(n0, oX12 th dp my sm st sz mo ms yb hpk pkr rt rk rx hsh si gt va vn wd wa re ua pkk pxx bp mk bi pl cd rn rch rtn rdp rki rea rby rsh), (st, aI x.g 2400 B)]) [2, 3, 1, 0] [0, 1] rfl rfl (by decide) rfl ?_
  exact L5 _ 0 0 cd pl ⟨by decide, hw.1, rdM_0 hp.2, hcd, hp⟩ (Nat.lt_succ_self _)

set_option maxHeartbeats 4000000 in
set_option maxRecDepth 100000 in
theorem C_X12_signed (l : Launch) (g : GG) (n0 my sm st yb pkr rt rk rx si gt va re ua mk rki rea rby : Nat) (th dp sz mo ms hpk hsh vn wd wa pkk pxx bp bi pl cd rn rch rtn rdp rsh : Int) (w : Int) (B : Int → Int) (hw : 0 ≤ w ∧ w ≤ 31) (hB : isBytes B) (hl : 0 ≤ sz ∧ sz ≤ 2400) (hcd : 0 ≤ cd ∧ cd ≤ 20) (hp : 0 ≤ pl ∧ pl ≤ 8 * sz) : Ctr l g yX12_signed cX12_signed 4 (some .long) 3 90 0 0 [.ref n0, .int (iI w)] [(n0, oX12 th dp my sm st sz mo ms yb hpk pkr rt rk rx hsh si gt va vn wd wa re ua pkk pxx bp mk bi pl cd rn rch rtn rdp rki rea rby rsh), (st, aI g 2400 B)] (fun vv ww => ∃ (r r0 cd2 pl2 : Int), vv = some (.long (lI r)) ∧ ww = [(n0, oX12 th dp my sm st sz mo ms yb hpk pkr rt rk rx hsh si gt va vn wd wa re ua pkk pxx bp mk bi pl2 cd2 rn rch rtn rdp rki rea rby rsh), (st, aI g 2400 B)] ∧ r = sgn r0 w ∧ rdM B sz cd pl w r0 cd2 pl2 ∧ (0 ≤ cd2 ∧ cd2 ≤ 20) ∧ (0 ≤ pl2 ∧ pl2 ≤ 8 * sz)) := by
  refine Ctr.of [(0, .ref n0), (1, .int (iI w))] (by decide) (Nat.le_of_ble_eq_true rfl) rfl ?_
  intro x hxl hxg jb jr hin
  subst hxl; subst hxg
  have q1 := pw_le (k := w - 1) 31 (by omega)
  have q2 := pw_pos (w - 1)
  have q3 := pw_le (k := w) 31 (by omega)
  rw [e31] at q1 q3
  have q4 : w = 0 → (2 : Int) ^ w.toNat = 1 ∧ (2 : Int) ^ (w - 1).toNat = 1 := fun e => by (rw [e]; decide)
  refine j_aload_n jb dX12_signed_0 0 rfl ?_
  refine j_iload_n jb dX12_signed_1 1 rfl ?_
  refine j_callV (wr := []) jb k_X12_number i_X12_number s_X12_number l_X12_214 (C_X12_number x.l x.g n0 my sm st yb pkr rt rk rx si gt va re ua mk rki rea rby th dp sz mo ms hpk hsh vn wd wa pkk pxx bp bi pl cd rn rch rtn rdp rsh w B (by omega) hB (by omega) (by omega) (by omega)) 0 14 rfl rfl rfl [0, 1] [] (by decide) rfl rfl (by decide) (by decide) rfl rfl (Nat.le_of_ble_eq_true rfl) (by decide) dX12_signed_2 (fun v w hp => ?_)
  obtain ⟨r0, cd3, pl3, rfl, rfl, h2⟩ := hp
  refine j_norm (lv' := [(0, .ref n0), (1, .int (iI w))]) (st' := [.long (lI r0)]) (ws' := [(n0, oX12 th dp my sm st sz mo ms yb hpk pkr rt rk rx hsh si gt va vn wd wa re ua pkk pxx bp mk bi pl3 cd3 rn rch rtn rdp rki rea rby rsh), (st, aI x.g 2400 B)]) [0, 1] [0, 1] rfl rfl (by decide) rfl ?_
  have hz := h2.1.2.2.2.1
  refine j_lstore_n (lv' := [(2, .long (lI r0)), (0, .ref n0), (1, .int (iI w))]) jb dX12_signed_5 rfl (by decide) rfl ?_
  refine j_iload_n jb dX12_signed_6 2 rfl ?_
  refine j_if_le (tgt := 28) jb dX12_signed_7 (by decide) (by omega) (fun c_7 => ?_) (fun c_7 => ?_)
  · skip
    refine j_lload_n jb dX12_signed_28 0 rfl ?_
    refine j_norm (lv' := []) (st' := [.long (lI r0)]) (ws' := [(n0, oX12 th dp my sm st sz mo ms yb hpk pkr rt rk rx hsh si gt va vn wd wa re ua pkk pxx bp mk bi pl3 cd3 rn rch rtn rdp rki rea rby rsh), (st, aI x.g 2400 B)]) [] [0, 1] rfl rfl (by decide) rfl ?_
    exact j_lret jb jr dX12_signed_29 ⟨_, r0, _, _, rfl, rfl, ⟨by rw [sgn_M hw.1 hz]; first | (rw [if_pos (by omega)]; done) | (rw [if_neg (by omega), Int.one_mul]; done), h2⟩⟩
  · skip
    refine j_lload_n jb dX12_signed_10 0 rfl ?_
    refine j_lconst (z := 1) jb dX12_signed_11 rfl ?_
    refine j_iload_n jb dX12_signed_12 2 rfl ?_
    refine j_iconst jb dX12_signed_13 ?_
    refine j_isub jb dX12_signed_14 ?_
    refine j_lshl jb dX12_signed_15 (by omega) ?_
    refine j_lcmp_lt (tgt := 28) jb dX12_signed_16 dX12_signed_17 (by decide) (by omega) (by omega) (fun c_16 => ?_) (fun c_16 => ?_)
    · skip
      refine j_lload_n jb dX12_signed_28 0 rfl ?_
      refine j_norm (lv' := []) (st' := [.long (lI r0)]) (ws' := [(n0, oX12 th dp my sm st sz mo ms yb hpk pkr rt rk rx hsh si gt va vn wd wa re ua pkk pxx bp mk bi pl3 cd3 rn rch rtn rdp rki rea rby rsh), (st, aI x.g 2400 B)]) [] [0, 1] rfl rfl (by decide) rfl ?_
      exact j_lret jb jr dX12_signed_29 ⟨_, r0, _, _, rfl, rfl, ⟨by rw [sgn_M hw.1 hz]; first | (rw [if_pos (by omega)]; done) | (rw [if_neg (by omega), Int.one_mul]; done), h2⟩⟩
    · skip
      refine j_lload_n jb dX12_signed_20 0 rfl ?_
      refine j_lconst (z := 1) jb dX12_signed_21 rfl ?_
      refine j_iload_n jb dX12_signed_22 2 rfl ?_
      refine j_lshl jb dX12_signed_23 (by omega) ?_
      refine j_lsub jb dX12_signed_24 ?_
      refine j_goto (tgt := 29) jb dX12_signed_25 (by decide) ?_
      refine j_norm (lv' := []) (st' := [.long (lI (r0 - (1 * 2 ^ w.toNat)))]) (ws' := [(n0, oX12 th dp my sm st sz mo ms yb hpk pkr rt rk rx hsh si gt va vn wd wa re ua pkk pxx bp mk bi pl3 cd3 rn rch rtn rdp rki rea rby rsh), (st, aI x.g 2400 B)]) [] [0, 1] rfl rfl (by decide) rfl ?_
      exact j_lret jb jr dX12_signed_29 ⟨_, r0, _, _, rfl, rfl, ⟨by rw [sgn_M hw.1 hz]; first | (rw [if_pos (by omega)]; done) | (rw [if_neg (by omega), Int.one_mul]; done), h2⟩⟩

set_option maxHeartbeats 4000000 in
set_option maxRecDepth 100000 in
theorem C_X12_back (l : Launch) (g : GG) (n0 my sm st yb pkr rt rk rx si gt va re ua mk rki rea rby : Nat) (th dp sz mo ms hpk hsh vn wd wa pkk pxx bp bi pl cd rn rch rtn rdp rsh : Int) (q i j : Int) (rd : Int → Int) (hq : 0 ≤ q ∧ q ≤ 1) (hi : 0 ≤ i ∧ i < 400) (hj : 1 ≤ j ∧ j ≤ 4) (hv : vOk (fun t => rd (400 * q + t)) i) : Ctr l g yX12_back cX12_back 4 (some .long) 0 0 0 0 [.ref n0, .int (iI q), .int (iI i), .int (iI j)] [(n0, oX12 th dp my sm st sz mo ms yb hpk pkr rt rk rx hsh si gt va vn wd wa re ua pkk pxx bp mk bi pl cd rn rch rtn rdp rki rea rby rsh), (rea, aI g 800 rd)] (fun vv ww => ∃ (r : Int), vv = some (.long (lI r)) ∧ ww = [(n0, oX12 th dp my sm st sz mo ms yb hpk pkr rt rk rx hsh si gt va vn wd wa re ua pkk pxx bp mk bi pl cd rn rch rtn rdp rki rea rby rsh), (rea, aI g 800 rd)] ∧ r = bef (fun t => rd (400 * q + t)) i j) := by
  refine Ctr.of [(0, .ref n0), (1, .int (iI q)), (2, .int (iI i)), (3, .int (iI j))] (by decide) (Nat.le_of_ble_eq_true rfl) rfl ?_
  intro x hxl hxg jb jr hin
  subst hxl; subst hxg
  refine j_iload_n jb dX12_back_0 2 rfl ?_
  refine j_iload_n jb dX12_back_1 3 rfl ?_
  refine j_icmp_lt (tgt := 23) jb dX12_back_2 (by decide) (by omega) (by omega) (fun c_2 => ?_) (fun c_2 => ?_)
  · skip
    refine j_lconst (z := 0) jb dX12_back_23 rfl ?_
    refine j_norm (lv' := []) (st' := [.long (lI 0)]) (ws' := [(n0, oX12 th dp my sm st sz mo ms yb hpk pkr rt rk rx hsh si gt va vn wd wa re ua pkk pxx bp mk bi pl cd rn rch rtn rdp rki rea rby rsh), (rea, aI x.g 800 rd)]) [] [0, 1] rfl rfl (by decide) rfl ?_
    exact j_lret jb jr dX12_back_24 ⟨_, rfl, rfl, (by unfold bef; first | (rw [if_pos (by omega), show 400 * q + i - j = 400 * q + (i - j) by omega]; done) | (rw [if_neg (by omega)]; done))⟩
  · skip
    refine j_aload_n jb dX12_back_5 0 rfl ?_
    refine j_get jb f_X12_63 dX12_back_6 0 rfl rfl ?_
    refine j_sipush jb dX12_back_9 (by decide) ?_
    refine j_iload_n jb dX12_back_12 1 rfl ?_
    refine j_imul jb dX12_back_13 ?_
    refine j_iload_n jb dX12_back_14 2 rfl ?_
    refine j_iadd jb dX12_back_15 ?_
    refine j_iload_n jb dX12_back_16 3 rfl ?_
    refine j_isub jb dX12_back_17 ?_
    refine j_iald jb dX12_back_18 1 rfl (by omega) (by decide) ?_
    refine j_i2l jb dX12_back_19 (by have z := hv (i - j) (by omega) (by omega); rw [show 400 * q + i - j = 400 * q + (i - j) by omega]; have z : -65536 ≤ rd (400 * q + (i - j)) ∧ rd (400 * q + (i - j)) ≤ 65536 := z; omega) ?_
    refine j_goto (tgt := 24) jb dX12_back_20 (by decide) ?_
    refine j_norm (lv' := []) (st' := [.long (lI (rd (((400 * q) + i) - j)))]) (ws' := [(n0, oX12 th dp my sm st sz mo ms yb hpk pkr rt rk rx hsh si gt va vn wd wa re ua pkk pxx bp mk bi pl cd rn rch rtn rdp rki rea rby rsh), (rea, aI x.g 800 rd)]) [] [0, 1] rfl rfl (by decide) rfl ?_
    exact j_lret jb jr dX12_back_24 ⟨_, rfl, rfl, (by unfold bef; first | (rw [if_pos (by omega), show 400 * q + i - j = 400 * q + (i - j) by omega]; done) | (rw [if_neg (by omega)]; done))⟩

set_option maxHeartbeats 4000000 in
set_option maxRecDepth 100000 in
theorem C_X12_foreseen (l : Launch) (g : GG) (n0 my sm st yb pkr rt rk rx si gt va re ua mk rki rea rby : Nat) (th dp sz mo ms hpk hsh vn wd wa pkk pxx bp bi pl cd rn rch rtn rdp rsh : Int) (q kind o i sh9 : Int) (rd cb c9 : Int → Int) (hk : ((kind = 7 ∧ c9 = cb ∧ sh9 = rsh) ∨ (2 ≤ kind ∧ kind < 7 ∧ c9 = cFix o ∧ sh9 = 0))) (hq : 0 ≤ q ∧ q ≤ 1) (ho : 0 ≤ o ∧ o ≤ 4) (hi : o ≤ i ∧ i < 400) (hv : vOk (fun t => rd (400 * q + t)) i) (hcf : cfOk c9) (hs99 : 0 ≤ sh9 ∧ sh9 ≤ 15) : Ctr l g yX12_foreseen cX12_foreseen 8 (some .long) 1 30 0 0 [.ref n0, .int (iI q), .int (iI kind), .int (iI o), .int (iI i)] [(n0, oX12 th dp my sm st sz mo ms yb hpk pkr rt rk rx hsh si gt va vn wd wa re ua pkk pxx bp mk bi pl cd rn rch rtn rdp rki rea rby rsh), (rea, aI g 800 rd), (rby, aI g 4 cb)] (fun vv ww => ∃ (r : Int), vv = some (.long (lI r)) ∧ ww = [(n0, oX12 th dp my sm st sz mo ms yb hpk pkr rt rk rx hsh si gt va vn wd wa re ua pkk pxx bp mk bi pl cd rn rch rtn rdp rki rea rby rsh), (rea, aI g 800 rd), (rby, aI g 4 cb)] ∧ r = ft c9 (fun t => rd (400 * q + t)) o sh9 i) := by
  refine Ctr.of [(0, .ref n0), (1, .int (iI q)), (2, .int (iI kind)), (3, .int (iI o)), (4, .int (iI i))] (by decide) (Nat.le_of_ble_eq_true rfl) rfl ?_
  intro x hxl hxg jb jr hin
  subst hxl; subst hxg
  have hkb : 2 ≤ kind ∧ kind ≤ 7 := by omega
  refine j_iload_n jb dX12_foreseen_0 2 rfl ?_
  refine j_bipush jb dX12_foreseen_1 (by decide) ?_
  refine j_icmp_ge (tgt := 43) jb dX12_foreseen_3 (by decide) (by omega) (by omega) (fun c_3 => ?_) (fun c_3 => ?_)
  · skip
    have hk7 : kind = 7 := by omega
    have hc9 : c9 = cb := Or.elim hk (fun z => z.2.1) (fun z => absurd z.2.1 (by omega))
    have hs9 : sh9 = rsh := Or.elim hk (fun z => z.2.2) (fun z => absurd z.2.1 (by omega))
    rw [hc9] at hcf
    refine j_lconst (z := 0) jb dX12_foreseen_43 rfl ?_
    refine j_lstore (lv' := [(5, .long (lI 0)), (0, .ref n0), (1, .int (iI q)), (2, .int (iI kind)), (3, .int (iI o)), (4, .int (iI i))]) jb dX12_foreseen_44 (by decide) rfl ?_
    refine j_iconst jb dX12_foreseen_46 ?_
    refine j_istore (lv' := [(7, .int (iI 0)), (5, .long (lI 0)), (0, .ref n0), (1, .int (iI q)), (2, .int (iI kind)), (3, .int (iI o)), (4, .int (iI i))]) jb dX12_foreseen_47 (by decide) rfl ?_
    have L49 : ∀ (fu : Nat) (s j : Int), (0 ≤ j ∧ j ≤ o ∧ s = fsum cb (fun t => rd (400 * q + t)) i j.toNat) → (o - j).toNat < fu → JW x 0 0 49 [(0, .ref n0), (1, .int (iI q)), (2, .int (iI kind)), (3, .int (iI o)), (4, .int (iI i)), (5, .long (lI s)), (7, .int (iI j))] [] [(n0, oX12 th dp my sm st sz mo ms yb hpk pkr rt rk rx hsh si gt va vn wd wa re ua pkk pxx bp mk bi pl cd rn rch rtn rdp rki rea rby rsh), (rea, aI x.g 800 rd), (rby, aI x.g 4 cb)] := by
      intro fu
      induction fu with
      | zero => intro s j _ hm; exact absurd hm (by omega)
      | succ fu ih =>
        intro s j ⟨hj1, hj2, hj3⟩ hm49
        have ih49 := ih
        clear ih
        refine j_iload jb dX12_foreseen_49 6 rfl ?_
        refine j_iload_n jb dX12_foreseen_51 3 rfl ?_
        refine j_icmp_ge (tgt := 86) jb dX12_foreseen_52 (by decide) (by omega) (by omega) (fun c_52 => ?_) (fun c_52 => ?_)
        · skip
          refine j_lload jb dX12_foreseen_86 5 rfl ?_
          refine j_aload_n jb dX12_foreseen_88 0 rfl ?_
          refine j_get jb f_X12_221 dX12_foreseen_89 0 rfl rfl ?_
          refine j_lshr jb dX12_foreseen_92 (by have z := fsum_in (n := j.toNat) (by omega) (by omega) hcf hv; rw [← hj3] at z; omega) (by omega) ?_
          refine j_norm (lv' := []) (st' := [.long (lI (s / 2 ^ rsh.toNat))]) (ws' := [(n0, oX12 th dp my sm st sz mo ms yb hpk pkr rt rk rx hsh si gt va vn wd wa re ua pkk pxx bp mk bi pl cd rn rch rtn rdp rki rea rby rsh), (rea, aI x.g 800 rd), (rby, aI x.g 4 cb)]) [] [0, 1, 2] rfl rfl (by decide) rfl ?_
          exact j_lret jb jr dX12_foreseen_93 ⟨_, rfl, rfl, (by unfold ft; rw [hc9, hs9, show o = j by omega, ← hj3])⟩
        · skip
          refine j_lload jb dX12_foreseen_55 5 rfl ?_
          refine j_aload_n jb dX12_foreseen_57 0 rfl ?_
          refine j_get jb f_X12_66 dX12_foreseen_58 0 rfl rfl ?_
          refine j_iload jb dX12_foreseen_61 6 rfl ?_
          refine j_iald jb dX12_foreseen_63 2 rfl (by omega) (by decide) ?_
          refine j_i2l jb dX12_foreseen_64 (by have := hcf j hj1 (by omega); omega) ?_
          refine j_aload_n jb dX12_foreseen_65 0 rfl ?_
          refine j_iload_n jb dX12_foreseen_66 1 rfl ?_
          refine j_iload jb dX12_foreseen_67 4 rfl ?_
          refine j_iload jb dX12_foreseen_69 6 rfl ?_
          refine j_iconst jb dX12_foreseen_71 ?_
          refine j_iadd jb dX12_foreseen_72 ?_
          refine j_callV (wr := [(rby, aI x.g 4 cb)]) jb k_X12_back i_X12_back s_X12_back l_X12_217 (C_X12_back x.l x.g n0 my sm st yb pkr rt rk rx si gt va re ua mk rki rea rby th dp sz mo ms hpk hsh vn wd wa pkk pxx bp bi pl cd rn rch rtn rdp rsh q i (j + 1) rd (by omega) (by omega) (by omega) hv) 0 14 rfl rfl rfl [0, 1] [2] (by decide) rfl rfl (by decide) (by decide) rfl rfl (Nat.le_of_ble_eq_true rfl) (by decide) dX12_foreseen_73 (fun v w hp => ?_)
          obtain ⟨r_73, rfl, rfl, h_73⟩ := hp
          refine j_norm (lv' := [(0, .ref n0), (1, .int (iI q)), (2, .int (iI kind)), (3, .int (iI o)), (4, .int (iI i)), (5, .long (lI s)), (7, .int (iI j))]) (st' := [.long (lI r_73), .long (lI (cb j)), .long (lI s)]) (ws' := [(n0, oX12 th dp my sm st sz mo ms yb hpk pkr rt rk rx hsh si gt va vn wd wa re ua pkk pxx bp mk bi pl cd rn rch rtn rdp rki rea rby rsh), (rea, aI x.g 800 rd), (rby, aI x.g 4 cb)]) [0, 1, 2, 3, 4, 5, 6] [1, 2, 0] rfl rfl (by decide) rfl ?_
          refine j_lmul jb dX12_foreseen_76 ?_
          refine j_ladd jb dX12_foreseen_77 ?_
          refine j_lstore (lv' := [(5, .long (lI (s + ((cb j) * r_73)))), (0, .ref n0), (1, .int (iI q)), (2, .int (iI kind)), (3, .int (iI o)), (4, .int (iI i)), (7, .int (iI j))]) jb dX12_foreseen_78 (by decide) rfl ?_
          refine j_iinc (lv' := [(7, .int (iI (j + 1))), (5, .long (lI (s + ((cb j) * r_73)))), (0, .ref n0), (1, .int (iI q)), (2, .int (iI kind)), (3, .int (iI o)), (4, .int (iI i))]) jb dX12_foreseen_80 6 rfl (by decide) rfl ?_
          refine j_goto (tgt := 49) jb dX12_foreseen_83 (by decide) ?_
          refine j_norm (lv' := [(0, .ref n0), (1, .int (iI q)), (2, .int (iI kind)), (3, .int (iI o)), (4, .int (iI i)), (5, .long (lI (s + ((cb j) * r_73)))), (7, .int (iI (j + 1)))]) (st' := []) (ws' := [(n0, oX12 th dp my sm st sz mo ms yb hpk pkr rt rk rx hsh si gt va vn wd wa re ua pkk pxx bp mk bi pl cd rn rch rtn rdp rki rea rby rsh), (rea, aI x.g 800 rd), (rby, aI x.g 4 cb)]) [2, 3, 4, 5, 6, 1, 0] [0, 1, 2] rfl rfl (by decide) rfl ?_
          exact ih49 (s + ((cb j) * r_73)) (j + 1) ⟨by omega, by omega, by have z := fsum_next (c := cb) (v := (fun t => rd (400 * q + t))) (i := i) hj1 hj3; rw [h_73]; unfold bef; rw [if_pos (by omega), show i - (j + 1) = i - 1 - j by omega]; exact z⟩ (by omega)
    refine j_norm (lv' := [(0, .ref n0), (1, .int (iI q)), (2, .int (iI kind)), (3, .int (iI o)), (4, .int (iI i)), (5, .long (lI 0)), (7, .int (iI 0))]) (st' := []) (ws' := [(n0, oX12 th dp my sm st sz mo ms yb hpk pkr rt rk rx hsh si gt va vn wd wa re ua pkk pxx bp mk bi pl cd rn rch rtn rdp rki rea rby rsh), (rea, aI x.g 800 rd), (rby, aI x.g 4 cb)]) [2, 3, 4, 5, 6, 1, 0] [0, 1, 2] rfl rfl (by decide) rfl ?_
    exact L49 _ 0 0 ⟨by decide, by omega, rfl⟩ (Nat.lt_succ_self _)
  · skip
    refine j_iload_n jb dX12_foreseen_6 3 rfl ?_
    refine j_aload_n jb dX12_foreseen_7 0 rfl ?_
    refine j_iload_n jb dX12_foreseen_8 1 rfl ?_
    refine j_iload jb dX12_foreseen_9 4 rfl ?_
    refine j_iconst jb dX12_foreseen_11 ?_
    refine j_callV (wr := [(rby, aI x.g 4 cb)]) jb k_X12_back i_X12_back s_X12_back l_X12_217 (C_X12_back x.l x.g n0 my sm st yb pkr rt rk rx si gt va re ua mk rki rea rby th dp sz mo ms hpk hsh vn wd wa pkk pxx bp bi pl cd rn rch rtn rdp rsh q i 1 rd (by omega) (by omega) (by omega) hv) 0 14 rfl rfl rfl [0, 1] [2] (by decide) rfl rfl (by decide) (by decide) rfl rfl (Nat.le_of_ble_eq_true rfl) (by decide) dX12_foreseen_12 (fun v w hp => ?_)
    obtain ⟨r_12, rfl, rfl, h_12⟩ := hp
    refine j_norm (lv' := [(0, .ref n0), (1, .int (iI q)), (2, .int (iI kind)), (3, .int (iI o)), (4, .int (iI i))]) (st' := [.long (lI r_12), .int (iI o)]) (ws' := [(n0, oX12 th dp my sm st sz mo ms yb hpk pkr rt rk rx hsh si gt va vn wd wa re ua pkk pxx bp mk bi pl cd rn rch rtn rdp rki rea rby rsh), (rea, aI x.g 800 rd), (rby, aI x.g 4 cb)]) [0, 1, 2, 3, 4] [1, 2, 0] rfl rfl (by decide) rfl ?_
    refine j_aload_n jb dX12_foreseen_15 0 rfl ?_
    refine j_iload_n jb dX12_foreseen_16 1 rfl ?_
    refine j_iload jb dX12_foreseen_17 4 rfl ?_
    refine j_iconst jb dX12_foreseen_19 ?_
    refine j_callV (wr := [(rby, aI x.g 4 cb)]) jb k_X12_back i_X12_back s_X12_back l_X12_217 (C_X12_back x.l x.g n0 my sm st yb pkr rt rk rx si gt va re ua mk rki rea rby th dp sz mo ms hpk hsh vn wd wa pkk pxx bp bi pl cd rn rch rtn rdp rsh q i 2 rd (by omega) (by omega) (by omega) hv) 0 14 rfl rfl rfl [0, 1] [2] (by decide) rfl rfl (by decide) (by decide) rfl rfl (Nat.le_of_ble_eq_true rfl) (by decide) dX12_foreseen_20 (fun v w hp => ?_)
    obtain ⟨r_20, rfl, rfl, h_20⟩ := hp
    refine j_norm (lv' := [(0, .ref n0), (1, .int (iI q)), (2, .int (iI kind)), (3, .int (iI o)), (4, .int (iI i))]) (st' := [.long (lI r_20), .long (lI r_12), .int (iI o)]) (ws' := [(n0, oX12 th dp my sm st sz mo ms yb hpk pkr rt rk rx hsh si gt va vn wd wa re ua pkk pxx bp mk bi pl cd rn rch rtn rdp rki rea rby rsh), (rea, aI x.g 800 rd), (rby, aI x.g 4 cb)]) [0, 1, 2, 3, 4] [1, 2, 0] rfl rfl (by decide) rfl ?_
    refine j_aload_n jb dX12_foreseen_23 0 rfl ?_
    refine j_iload_n jb dX12_foreseen_24 1 rfl ?_
    refine j_iload jb dX12_foreseen_25 4 rfl ?_
    refine j_iconst jb dX12_foreseen_27 ?_
    refine j_callV (wr := [(rby, aI x.g 4 cb)]) jb k_X12_back i_X12_back s_X12_back l_X12_217 (C_X12_back x.l x.g n0 my sm st yb pkr rt rk rx si gt va re ua mk rki rea rby th dp sz mo ms hpk hsh vn wd wa pkk pxx bp bi pl cd rn rch rtn rdp rsh q i 3 rd (by omega) (by omega) (by omega) hv) 0 14 rfl rfl rfl [0, 1] [2] (by decide) rfl rfl (by decide) (by decide) rfl rfl (Nat.le_of_ble_eq_true rfl) (by decide) dX12_foreseen_28 (fun v w hp => ?_)
    obtain ⟨r_28, rfl, rfl, h_28⟩ := hp
    refine j_norm (lv' := [(0, .ref n0), (1, .int (iI q)), (2, .int (iI kind)), (3, .int (iI o)), (4, .int (iI i))]) (st' := [.long (lI r_28), .long (lI r_20), .long (lI r_12), .int (iI o)]) (ws' := [(n0, oX12 th dp my sm st sz mo ms yb hpk pkr rt rk rx hsh si gt va vn wd wa re ua pkk pxx bp mk bi pl cd rn rch rtn rdp rki rea rby rsh), (rea, aI x.g 800 rd), (rby, aI x.g 4 cb)]) [0, 1, 2, 3, 4] [1, 2, 0] rfl rfl (by decide) rfl ?_
    refine j_aload_n jb dX12_foreseen_31 0 rfl ?_
    refine j_iload_n jb dX12_foreseen_32 1 rfl ?_
    refine j_iload jb dX12_foreseen_33 4 rfl ?_
    refine j_iconst jb dX12_foreseen_35 ?_
    refine j_callV (wr := [(rby, aI x.g 4 cb)]) jb k_X12_back i_X12_back s_X12_back l_X12_217 (C_X12_back x.l x.g n0 my sm st yb pkr rt rk rx si gt va re ua mk rki rea rby th dp sz mo ms hpk hsh vn wd wa pkk pxx bp bi pl cd rn rch rtn rdp rsh q i 4 rd (by omega) (by omega) (by omega) hv) 0 14 rfl rfl rfl [0, 1] [2] (by decide) rfl rfl (by decide) (by decide) rfl rfl (Nat.le_of_ble_eq_true rfl) (by decide) dX12_foreseen_36 (fun v w hp => ?_)
    obtain ⟨r_36, rfl, rfl, h_36⟩ := hp
    refine j_norm (lv' := [(0, .ref n0), (1, .int (iI q)), (2, .int (iI kind)), (3, .int (iI o)), (4, .int (iI i))]) (st' := [.long (lI r_36), .long (lI r_28), .long (lI r_20), .long (lI r_12), .int (iI o)]) (ws' := [(n0, oX12 th dp my sm st sz mo ms yb hpk pkr rt rk rx hsh si gt va vn wd wa re ua pkk pxx bp mk bi pl cd rn rch rtn rdp rki rea rby rsh), (rea, aI x.g 800 rd), (rby, aI x.g 4 cb)]) [0, 1, 2, 3, 4] [1, 2, 0] rfl rfl (by decide) rfl ?_
    refine j_callS (wr := [(n0, oX12 th dp my sm st sz mo ms yb hpk pkr rt rk rx hsh si gt va vn wd wa re ua pkk pxx bp mk bi pl cd rn rch rtn rdp rki rea rby rsh), (rea, aI x.g 800 rd), (rby, aI x.g 4 cb)]) jb k_X12_fixed t_X12_fixed l_X12_111 (C_X12_fixed x.l x.g o r_12 r_20 r_28 r_36 (by omega)) [] [0, 1, 2] (by decide) rfl rfl (by decide) (by decide) rfl rfl (Nat.le_of_ble_eq_true rfl) (by decide) dX12_foreseen_39 (fun v w hp => ?_)
    obtain ⟨r_39, rfl, rfl, h_39⟩ := hp
    refine j_norm (lv' := [(0, .ref n0), (1, .int (iI q)), (2, .int (iI kind)), (3, .int (iI o)), (4, .int (iI i))]) (st' := [.long (lI r_39)]) (ws' := [(n0, oX12 th dp my sm st sz mo ms yb hpk pkr rt rk rx hsh si gt va vn wd wa re ua pkk pxx bp mk bi pl cd rn rch rtn rdp rki rea rby rsh), (rea, aI x.g 800 rd), (rby, aI x.g 4 cb)]) [0, 1, 2, 3, 4] [0, 1, 2] rfl rfl (by decide) rfl ?_
    refine j_norm (lv' := []) (st' := [.long (lI r_39)]) (ws' := [(n0, oX12 th dp my sm st sz mo ms yb hpk pkr rt rk rx hsh si gt va vn wd wa re ua pkk pxx bp mk bi pl cd rn rch rtn rdp rki rea rby rsh), (rea, aI x.g 800 rd), (rby, aI x.g 4 cb)]) [] [0, 1, 2] rfl rfl (by decide) rfl ?_
    exact j_lret jb jr dX12_foreseen_42 ⟨_, rfl, rfl, (by rcases hk with z | z; { exact absurd z.1 (by omega) }; { rw [z.2.2.1, z.2.2.2, h_39, h_12, h_20, h_28, h_36]; exact fx_ft ho hi.1 })⟩

set_option maxHeartbeats 4000000 in
set_option maxRecDepth 100000 in
theorem C_X12_readRest (l : Launch) (g : GG) (n0 my sm st yb pkr rt rk rx si gt va re ua mk rki rea rby : Nat) (th dp sz mo ms hpk hsh vn wd wa pkk pxx bp bi pl cd rn rch rtn rdp rsh : Int) (k xx : Int) (B : Int → Int) (hk : 0 ≤ k ∧ k ≤ 15) (hx : 0 ≤ xx ∧ xx ≤ 31) (hx24 : cd = 0 → xx ≤ 24) (hB : isBytes B) (hl : 0 ≤ sz ∧ sz ≤ 2400) (hcd : 0 ≤ cd ∧ cd ≤ 20) (hp : 0 ≤ pl ∧ pl ≤ 8 * sz) : Ctr l g yX12_readRest cX12_readRest 7 (some .long) 4 120 0 0 [.ref n0, .int (iI k), .int (iI xx)] [(n0, oX12 th dp my sm st sz mo ms yb hpk pkr rt rk rx hsh si gt va vn wd wa re ua pkk pxx bp mk bi pl cd rn rch rtn rdp rki rea rby rsh), (st, aI g 2400 B)] (fun vv ww => ∃ (r cd2 pl2 : Int), vv = some (.long (lI r)) ∧ ww = [(n0, oX12 th dp my sm st sz mo ms yb hpk pkr rt rk rx hsh si gt va vn wd wa re ua pkk pxx bp mk bi pl2 cd2 rn rch rtn rdp rki rea rby rsh), (st, aI g 2400 B)] ∧ (cd = 0 → isRest B sz k xx pl r cd2 pl2) ∧ (¬ cd = 0 → cd2 = cd) ∧ (0 ≤ cd2 ∧ cd2 ≤ 20) ∧ (0 ≤ pl2 ∧ pl2 ≤ 8 * sz) ∧ (-16777216 ≤ r ∧ r ≤ 16777216)) := by
  refine Ctr.of [(0, .ref n0), (1, .int (iI k)), (2, .int (iI xx))] (by decide) (Nat.le_of_ble_eq_true rfl) rfl ?_
  intro x hxl hxg jb jr hin
  subst hxl; subst hxg
  have q1 := pw_pos (24 - k)
  have q2 := pw_le (k := 24 - k) 24 (by omega)
  rw [show (2 : Int) ^ 24 = 16777216 by decide] at q2
  refine j_iload_n jb dX12_readRest_0 1 rfl ?_
  refine j_bipush jb dX12_readRest_1 (by decide) ?_
  refine j_icmp_ne (tgt := 12) jb dX12_readRest_3 (by decide) (by omega) (by omega) (fun c_3 => ?_) (fun c_3 => ?_)
  · skip
    refine j_lconst (z := 0) jb dX12_readRest_12 rfl ?_
    refine j_lstore_n (lv' := [(3, .long (lI 0)), (0, .ref n0), (1, .int (iI k)), (2, .int (iI xx))]) jb dX12_readRest_13 rfl (by decide) rfl ?_
    have L14 : ∀ (fu : Nat) (hh cd1 pl1 : Int), ((0 ≤ hh ∧ hh ≤ (2 ^ (24 - k).toNat)) ∧ foI B sz k cd pl hh cd1 pl1 ∧ (0 ≤ cd1 ∧ cd1 ≤ 20) ∧ (0 ≤ pl1 ∧ pl1 ≤ 8 * sz)) → (16777217 - hh).toNat < fu → JW x 0 0 14 [(0, .ref n0), (1, .int (iI k)), (2, .int (iI xx)), (3, .long (lI hh))] [] [(n0, oX12 th dp my sm st sz mo ms yb hpk pkr rt rk rx hsh si gt va vn wd wa re ua pkk pxx bp mk bi pl1 cd1 rn rch rtn rdp rki rea rby rsh), (st, aI x.g 2400 B)] := by
      intro fu
      induction fu with
      | zero => intro hh cd1 pl1 _ hm; exact absurd hm (by omega)
      | succ fu ih =>
        intro hh cd1 pl1 ⟨hi1, hi2, hi3, hi4⟩ hm14
        have ih14 := ih
        clear ih
        refine j_aload_n jb dX12_readRest_14 0 rfl ?_
        refine j_callV (wr := []) jb k_X12_bit i_X12_bit s_X12_bit l_X12_211 (C_X12_bit x.l x.g n0 my sm st yb pkr rt rk rx si gt va re ua mk rki rea rby th dp sz mo ms hpk hsh vn wd wa pkk pxx bp bi pl1 cd1 rn rch rtn rdp rsh B hB (by omega) (by omega) (by omega)) 0 14 rfl rfl rfl [0, 1] [] (by decide) rfl rfl (by decide) (by decide) rfl rfl (Nat.le_of_ble_eq_true rfl) (by decide) dX12_readRest_15 (fun v w hp => ?_)
        obtain ⟨bt, cd3, pl3, rfl, rfl, h15⟩ := hp
        refine j_norm (lv' := [(0, .ref n0), (1, .int (iI k)), (2, .int (iI xx)), (3, .long (lI hh))]) (st' := [.int (iI bt)]) (ws' := [(n0, oX12 th dp my sm st sz mo ms yb hpk pkr rt rk rx hsh si gt va vn wd wa re ua pkk pxx bp mk bi pl3 cd3 rn rch rtn rdp rki rea rby rsh), (st, aI x.g 2400 B)]) [0, 1, 2, 3] [0, 1] rfl rfl (by decide) rfl ?_
        have hb9 := rdB_in h15
        have hfa := rdB_fa h15
        refine j_iconst jb dX12_readRest_18 ?_
        refine j_icmp_ne (tgt := 52) jb dX12_readRest_19 (by decide) (by omega) (by omega) (fun c_19 => ?_) (fun c_19 => ?_)
        · skip
          refine j_lload_n jb dX12_readRest_52 3 rfl ?_
          refine j_iload_n jb dX12_readRest_53 1 rfl ?_
          refine j_lshl jb dX12_readRest_54 (by omega) ?_
          refine j_aload_n jb dX12_readRest_55 0 rfl ?_
          refine j_iload_n jb dX12_readRest_56 1 rfl ?_
          refine j_callV (wr := []) jb k_X12_number i_X12_number s_X12_number l_X12_214 (C_X12_number x.l x.g n0 my sm st yb pkr rt rk rx si gt va re ua mk rki rea rby th dp sz mo ms hpk hsh vn wd wa pkk pxx bp bi pl3 cd3 rn rch rtn rdp rsh k B (by omega) hB (by omega) (by omega) (by omega)) 0 14 rfl rfl rfl [0, 1] [] (by decide) rfl rfl (by decide) (by decide) rfl rfl (Nat.le_of_ble_eq_true rfl) (by decide) dX12_readRest_57 (fun v w hp => ?_)
          obtain ⟨r2, cd5, pl5, rfl, rfl, h57⟩ := hp
          refine j_norm (lv' := [(0, .ref n0), (1, .int (iI k)), (2, .int (iI xx)), (3, .long (lI hh))]) (st' := [.long (lI r2), .long (lI (hh * 2 ^ k.toNat))]) (ws' := [(n0, oX12 th dp my sm st sz mo ms yb hpk pkr rt rk rx hsh si gt va vn wd wa re ua pkk pxx bp mk bi pl5 cd5 rn rch rtn rdp rki rea rby rsh), (st, aI x.g 2400 B)]) [0, 1, 2, 3] [0, 1] rfl rfl (by decide) rfl ?_
          have hfe := fo_end hi2 h15 c_19 h57.1
          have hr2 := h57.1.2.2.2.1
          have hhk := sh24_le (k := k) (by omega) hi1
          have hp14 := pw_le (k := k) 14 (by omega)
          rw [show (2 : Int) ^ 14 = 16384 by decide] at hp14
          refine j_lor jb dX12_readRest_60 ?_
          refine j_topl (hh * 2 ^ k.toNat + r2) (zOrL_add hi1.1 hr2 (by omega)) ?_
          refine j_genl (fun u e_u => ?_)
          refine j_lstore (lv' := [(5, .long (lI u)), (0, .ref n0), (1, .int (iI k)), (2, .int (iI xx)), (3, .long (lI hh))]) jb dX12_readRest_61 (by decide) rfl ?_
          refine j_lload jb dX12_readRest_63 0 rfl ?_
          refine j_lconst (z := 1) jb dX12_readRest_65 rfl ?_
          refine j_land jb dX12_readRest_66 ?_
          refine j_topl (u % 2) (zAndL_1 _) ?_
          refine j_lconst (z := 0) jb dX12_readRest_67 rfl ?_
          refine j_lcmp_ne (tgt := 79) jb dX12_readRest_68 dX12_readRest_69 (by decide) (by omega) (by omega) (fun c_68 => ?_) (fun c_68 => ?_)
          · skip
            refine j_lload jb dX12_readRest_79 0 rfl ?_
            refine j_lconst (z := 1) jb dX12_readRest_81 rfl ?_
            refine j_ladd jb dX12_readRest_82 ?_
            refine j_iconst jb dX12_readRest_83 ?_
            refine j_lshr jb dX12_readRest_84 (by omega) (by decide) ?_
            refine j_topl ((u + 1) / 2) (p1 _) ?_
            refine j_lneg jb dX12_readRest_85 ?_
            refine j_norm (lv' := []) (st' := [.long (lI (-((u + 1) / 2)))]) (ws' := [(n0, oX12 th dp my sm st sz mo ms yb hpk pkr rt rk rx hsh si gt va vn wd wa re ua pkk pxx bp mk bi pl5 cd5 rn rch rtn rdp rki rea rby rsh), (st, aI x.g 2400 B)]) [] [0, 1] rfl rfl (by decide) rfl ?_
            exact j_lret jb jr dX12_readRest_86 ⟨_, _, _, rfl, rfl, (by first | exact (by have hun : u / 2 = unf u := unf_u (by first | exact Or.inl ⟨by omega, rfl⟩ | exact Or.inr ⟨by omega, rfl⟩); exact ⟨fun z => rest_k c_3 (by rw [hun, e_u]; exact hfe.1 z), hfe.2, h57.2.1, h57.2.2, by omega⟩) | exact (by have hun : -((u + 1) / 2) = unf u := unf_u (by first | exact Or.inl ⟨by omega, rfl⟩ | exact Or.inr ⟨by omega, rfl⟩); exact ⟨fun z => rest_k c_3 (by rw [hun, e_u]; exact hfe.1 z), hfe.2, h57.2.1, h57.2.2, by omega⟩))⟩
          · skip
            refine j_lload jb dX12_readRest_72 0 rfl ?_
            refine j_iconst jb dX12_readRest_74 ?_
            refine j_lshr jb dX12_readRest_75 (by omega) (by decide) ?_
            refine j_topl (u / 2) (p1 _) ?_
            refine j_goto (tgt := 86) jb dX12_readRest_76 (by decide) ?_
            refine j_norm (lv' := []) (st' := [.long (lI (u / 2))]) (ws' := [(n0, oX12 th dp my sm st sz mo ms yb hpk pkr rt rk rx hsh si gt va vn wd wa re ua pkk pxx bp mk bi pl5 cd5 rn rch rtn rdp rki rea rby rsh), (st, aI x.g 2400 B)]) [] [0, 1] rfl rfl (by decide) rfl ?_
            exact j_lret jb jr dX12_readRest_86 ⟨_, _, _, rfl, rfl, (by first | exact (by have hun : u / 2 = unf u := unf_u (by first | exact Or.inl ⟨by omega, rfl⟩ | exact Or.inr ⟨by omega, rfl⟩); exact ⟨fun z => rest_k c_3 (by rw [hun, e_u]; exact hfe.1 z), hfe.2, h57.2.1, h57.2.2, by omega⟩) | exact (by have hun : -((u + 1) / 2) = unf u := unf_u (by first | exact Or.inl ⟨by omega, rfl⟩ | exact Or.inr ⟨by omega, rfl⟩); exact ⟨fun z => rest_k c_3 (by rw [hun, e_u]; exact hfe.1 z), hfe.2, h57.2.1, h57.2.2, by omega⟩))⟩
        · skip
          refine j_aload_n jb dX12_readRest_22 0 rfl ?_
          refine j_get jb f_X12_202 dX12_readRest_23 0 rfl rfl ?_
          refine j_if_ne (tgt := 52) jb dX12_readRest_26 (by decide) (by omega) (fun c_26 => ?_) (fun c_26 => ?_)
          · skip
            exact absurd (fo_one hi2 h15 c_19).2.2.2.1 c_26
          · skip
            refine j_lload_n jb dX12_readRest_29 3 rfl ?_
            refine j_lconst (z := 1) jb dX12_readRest_30 rfl ?_
            refine j_ladd jb dX12_readRest_31 ?_
            refine j_lstore_n (lv' := [(3, .long (lI (hh + 1))), (0, .ref n0), (1, .int (iI k)), (2, .int (iI xx))]) jb dX12_readRest_32 rfl (by decide) rfl ?_
            have hf1 := fo_one hi2 h15 c_19
            have hlt := sh24_le (k := k) (h := hh + 1) (by omega) (by omega)
            refine j_lload_n jb dX12_readRest_33 0 rfl ?_
            refine j_iload_n jb dX12_readRest_34 2 rfl ?_
            refine j_lshl jb dX12_readRest_35 (by omega) ?_
            refine j_ldc2 (z := 16777216) jb q_X12_150 rfl dX12_readRest_36 ?_
            refine j_lcmp_lt (tgt := 14) jb dX12_readRest_39 dX12_readRest_40 (by decide) (by omega) (by omega) (fun c_39 => ?_) (fun c_39 => ?_)
            · skip
              refine j_norm (lv' := [(0, .ref n0), (1, .int (iI k)), (2, .int (iI xx)), (3, .long (lI (hh + 1)))]) (st' := []) (ws' := [(n0, oX12 th dp my sm st sz mo ms yb hpk pkr rt rk rx hsh si gt va vn wd wa re ua pkk pxx bp mk bi pl3 cd3 rn rch rtn rdp rki rea rby rsh), (st, aI x.g 2400 B)]) [1, 2, 3, 0] [0, 1] rfl rfl (by decide) rfl ?_
              exact ih14 (hh + 1) cd3 pl3 ⟨by omega, fo_next hi2 h15 c_19 ((sh24 (by omega)).mp c_39), by omega, by omega⟩ (by omega)
            · skip
              refine j_aload_n jb dX12_readRest_43 1 rfl ?_
              refine j_bipush jb dX12_readRest_44 (by decide) ?_
              refine j_callV (wr := [(st, aI x.g 2400 B)]) jb k_X12_wrong i_X12_wrong s_X12_wrong l_X12_208 (C_X12_wrong x.l x.g n0 my sm st yb pkr rt rk rx si gt va re ua mk rki rea rby th dp sz mo ms hpk hsh vn wd wa pkk pxx bp bi pl3 cd3 rn rch rtn rdp rsh 8 (by omega)) 0 14 rfl rfl rfl [0] [1] (by decide) rfl rfl (by decide) (by decide) rfl rfl (Nat.le_of_ble_eq_true rfl) (by decide) dX12_readRest_46 (fun v w hp => ?_)
              obtain ⟨cd4, rfl, rfl, h46⟩ := hp
              refine j_norm (lv' := [(3, .long (lI (hh + 1))), (0, .ref n0), (1, .int (iI k)), (2, .int (iI xx))]) (st' := []) (ws' := [(n0, oX12 th dp my sm st sz mo ms yb hpk pkr rt rk rx hsh si gt va vn wd wa re ua pkk pxx bp mk bi pl3 cd4 rn rch rtn rdp rki rea rby rsh), (st, aI x.g 2400 B)]) [0, 1, 2, 3] [1, 0] rfl rfl (by decide) rfl ?_
              refine j_goto (tgt := 14) jb dX12_readRest_49 (by decide) ?_
              refine j_norm (lv' := [(0, .ref n0), (1, .int (iI k)), (2, .int (iI xx)), (3, .long (lI (hh + 1)))]) (st' := []) (ws' := [(n0, oX12 th dp my sm st sz mo ms yb hpk pkr rt rk rx hsh si gt va vn wd wa re ua pkk pxx bp mk bi pl3 cd4 rn rch rtn rdp rki rea rby rsh), (st, aI x.g 2400 B)]) [1, 2, 3, 0] [0, 1] rfl rfl (by decide) rfl ?_
              exact ih14 (hh + 1) cd4 pl3 (by have z := fo_full hi2 h15 c_19 (fun y => c_39 ((sh24 (by omega)).mpr y)) h46; have y := fo_one hi2 h15 c_19; exact ⟨by omega, z.1, by omega, by omega⟩) (by omega)
    refine j_norm (lv' := [(0, .ref n0), (1, .int (iI k)), (2, .int (iI xx)), (3, .long (lI 0))]) (st' := []) (ws' := [(n0, oX12 th dp my sm st sz mo ms yb hpk pkr rt rk rx hsh si gt va vn wd wa re ua pkk pxx bp mk bi pl cd rn rch rtn rdp rki rea rby rsh), (st, aI x.g 2400 B)]) [1, 2, 3, 0] [0, 1] rfl rfl (by decide) rfl ?_
    exact L14 _ 0 cd pl ⟨⟨by decide, by omega⟩, foI_0 _ _ _ _ _, hcd, hp⟩ (Nat.lt_succ_self _)
  · skip
    refine j_aload_n jb dX12_readRest_6 0 rfl ?_
    refine j_iload_n jb dX12_readRest_7 2 rfl ?_
    refine j_callV (wr := []) jb k_X12_signed i_X12_signed s_X12_signed l_X12_227 (C_X12_signed x.l x.g n0 my sm st yb pkr rt rk rx si gt va re ua mk rki rea rby th dp sz mo ms hpk hsh vn wd wa pkk pxx bp bi pl cd rn rch rtn rdp rsh xx B (by omega) hB (by omega) (by omega) (by omega)) 0 14 rfl rfl rfl [0, 1] [] (by decide) rfl rfl (by decide) (by decide) rfl rfl (Nat.le_of_ble_eq_true rfl) (by decide) dX12_readRest_8 (fun v w hp => ?_)
    obtain ⟨r8, q8, cd8, pl8, rfl, rfl, h8⟩ := hp
    refine j_norm (lv' := [(0, .ref n0), (1, .int (iI k)), (2, .int (iI xx))]) (st' := [.long (lI r8)]) (ws' := [(n0, oX12 th dp my sm st sz mo ms yb hpk pkr rt rk rx hsh si gt va vn wd wa re ua pkk pxx bp mk bi pl8 cd8 rn rch rtn rdp rki rea rby rsh), (st, aI x.g 2400 B)]) [0, 1, 2] [0, 1] rfl rfl (by decide) rfl ?_
    refine j_norm (lv' := []) (st' := [.long (lI r8)]) (ws' := [(n0, oX12 th dp my sm st sz mo ms yb hpk pkr rt rk rx hsh si gt va vn wd wa re ua pkk pxx bp mk bi pl8 cd8 rn rch rtn rdp rki rea rby rsh), (st, aI x.g 2400 B)]) [] [0, 1] rfl rfl (by decide) rfl ?_
    exact j_lret jb jr dX12_readRest_11 ⟨_, _, _, rfl, rfl, (by refine ⟨fun z => (by rw [h8.1]; exact restM_15 c_3 z h8.2.1), fun z => rdM_no h8.2.1 z, h8.2.2.1, h8.2.2.2, ?_⟩; (by_cases z : cd = 0); { rw [h8.1]; exact sgn_24 ⟨hx.1, hx24 z⟩ h8.2.1.2.2.2.1 }; { rw [h8.1, h8.2.1.2.2.1 z, sgn_0]; decide })⟩

set_option maxHeartbeats 4000000 in
set_option maxRecDepth 100000 in
theorem C_X12_readRests (l : Launch) (g : GG) (n0 my sm st yb pkr rt rk rx si gt va re ua mk rki rea rby : Nat) (th dp sz mo ms hpk hsh vn wd wa pkk pxx bp bi pl cd rn rch rtn rdp rsh : Int) (q kind o left sh9 : Int) (B rd cb c9 : Int → Int) (hk : ((kind = 7 ∧ c9 = cb ∧ sh9 = rsh) ∨ (2 ≤ kind ∧ kind < 7 ∧ c9 = cFix o ∧ sh9 = 0))) (hq : 0 ≤ q ∧ q ≤ 1) (hn : 1 ≤ rn ∧ rn ≤ 400) (ho : 0 ≤ o ∧ o ≤ 4) (hle : 1 ≤ left ∧ left ≤ 17) (hf0 : cd = 0 → fitOn (fun t => rd (400 * q + t)) left o) (hcf : cfOk c9) (hs99 : 0 ≤ sh9 ∧ sh9 ≤ 15) (hB : isBytes B) (hl : 0 ≤ sz ∧ sz ≤ 2400) (hcd : 0 ≤ cd ∧ cd ≤ 20) (hp : 0 ≤ pl ∧ pl ≤ 8 * sz) : Ctr l g yX12_readRests cX12_readRests 12 none 5 150 0 0 [.ref n0, .int (iI q), .int (iI kind), .int (iI o), .int (iI left)] [(n0, oX12 th dp my sm st sz mo ms yb hpk pkr rt rk rx hsh si gt va vn wd wa re ua pkk pxx bp mk bi pl cd rn rch rtn rdp rki rea rby rsh), (st, aI g 2400 B), (rea, aI g 800 rd), (rby, aI g 4 cb)] (fun vv ww => ∃ (cd2 pl2 : Int) (rd2 : Int → Int), vv = none ∧ ww = [(n0, oX12 th dp my sm st sz mo ms yb hpk pkr rt rk rx hsh si gt va vn wd wa re ua pkk pxx bp mk bi pl2 cd2 rn rch rtn rdp rki rea rby rsh), (st, aI g 2400 B), (rea, aI g 800 rd2), (rby, aI g 4 cb)] ∧ isR (sR cd (getR B sz 3 pl (fun p pos => fltR (¬ mayP p rn o) 6 (partsR B sz left o sh9 c9 (rn / 2 ^ p.toNat) (2 ^ p.toNat) 0 pos (fun t => rd (400 * q + t)))))) cd2 pl2 (fun t => rd2 (400 * q + t)) ∧ (0 ≤ cd2 ∧ cd2 ≤ 20) ∧ (0 ≤ pl2 ∧ pl2 ≤ 8 * sz) ∧ (cd2 = 0 → cd = 0 ∧ fitOn (fun t => rd2 (400 * q + t)) left rn) ∧ (∀ j, (j < 400 * q ∨ 400 * q + 400 ≤ j) → rd2 j = rd j)) := by
  refine Ctr.of [(0, .ref n0), (1, .int (iI q)), (2, .int (iI kind)), (3, .int (iI o)), (4, .int (iI left))] (by decide) (Nat.le_of_ble_eq_true rfl) rfl ?_
  intro x hxl hxg jb jr hin
  subst hxl; subst hxg
  obtain ⟨R0, hR0⟩ : ∃ R : RR, R = sR cd (getR B sz 3 pl (fun p pos => fltR (¬ mayP p rn o) 6 (partsR B sz left o sh9 c9 (rn / 2 ^ p.toNat) (2 ^ p.toNat) 0 pos (fun t => rd (400 * q + t))))) := ⟨_, rfl⟩
  have hc0 : contI R0 cd (getR B sz 3 pl (fun p pos => fltR (¬ mayP p rn o) 6 (partsR B sz left o sh9 c9 (rn / 2 ^ p.toNat) (2 ^ p.toNat) 0 pos (fun t => rd (400 * q + t))))) := by (rw [hR0]; exact cI_s _ _)
  have hkb : 2 ≤ kind ∧ kind ≤ 7 := by omega
  refine j_aload_n jb dX12_readRests_0 0 rfl ?_
  refine j_iconst jb dX12_readRests_1 ?_
  refine j_callV (wr := [(rea, aI x.g 800 rd), (rby, aI x.g 4 cb)]) jb k_X12_number i_X12_number s_X12_number l_X12_214 (C_X12_number x.l x.g n0 my sm st yb pkr rt rk rx si gt va re ua mk rki rea rby th dp sz mo ms hpk hsh vn wd wa pkk pxx bp bi pl cd rn rch rtn rdp rsh 3 B (by decide) hB (by omega) (by omega) (by omega)) 0 14 rfl rfl rfl [0, 1] [2, 3] (by decide) rfl rfl (by decide) (by decide) rfl rfl (Nat.le_of_ble_eq_true rfl) (by decide) dX12_readRests_2 (fun v w hp => ?_)
  obtain ⟨p, cd1, pl1, rfl, rfl, h2⟩ := hp
  refine j_norm (lv' := [(0, .ref n0), (1, .int (iI q)), (2, .int (iI kind)), (3, .int (iI o)), (4, .int (iI left))]) (st' := [.long (lI p)]) (ws' := [(n0, oX12 th dp my sm st sz mo ms yb hpk pkr rt rk rx hsh si gt va vn wd wa re ua pkk pxx bp mk bi pl1 cd1 rn rch rtn rdp rki rea rby rsh), (st, aI x.g 2400 B), (rea, aI x.g 800 rd), (rby, aI x.g 4 cb)]) [0, 1, 2, 3, 4] [2, 3, 0, 1] rfl rfl (by decide) rfl ?_
  have hc1 := cM_get (f := (fun p pos => fltR (¬ mayP p rn o) 6 (partsR B sz left o sh9 c9 (rn / 2 ^ p.toNat) (2 ^ p.toNat) 0 pos (fun t => rd (400 * q + t))))) hc0 h2.1
  have hpb := h2.1.2.2.2.1
  have hp8 : 0 ≤ p ∧ p < 8 := hpb
  have q1 := pw_pos p
  have q2 := pw_le (k := p) 7 (by omega)
  rw [show (2 : Int) ^ 7 = 128 by decide] at q2
  have q3 := Int.emod_nonneg rn (show (2 : Int) ^ p.toNat ≠ 0 by omega)
  have q4 := Int.emod_lt_of_pos rn q1
  have q5 := Int.ediv_nonneg (show 0 ≤ rn by omega) (show 0 ≤ (2 : Int) ^ p.toNat by omega)
  have q6 := Int.ediv_le_self (2 ^ p.toNat) (show 0 ≤ rn by omega)
  refine j_l2i jb dX12_readRests_5 ?_
  refine j_istore (lv' := [(5, .int (iI p)), (0, .ref n0), (1, .int (iI q)), (2, .int (iI kind)), (3, .int (iI o)), (4, .int (iI left))]) jb dX12_readRests_6 (by decide) rfl ?_
  refine j_aload_n jb dX12_readRests_8 1 rfl ?_
  refine j_get jb f_X12_202 dX12_readRests_9 0 rfl rfl ?_
  have J50 : ∀ (cd2 : Int), (contI R0 cd2 (partsR B sz left o sh9 c9 (rn / 2 ^ p.toNat) (2 ^ p.toNat) 0 pl1 (fun t => rd (400 * q + t))) ∧ (0 ≤ cd2 ∧ cd2 ≤ 20) ∧ (cd2 = 0 → mayP p rn o ∧ cd1 = 0)) → JW x 0 0 50 [(0, .ref n0), (1, .int (iI q)), (2, .int (iI kind)), (3, .int (iI o)), (4, .int (iI left)), (5, .int (iI p))] [] [(n0, oX12 th dp my sm st sz mo ms yb hpk pkr rt rk rx hsh si gt va vn wd wa re ua pkk pxx bp mk bi pl1 cd2 rn rch rtn rdp rki rea rby rsh), (st, aI x.g 2400 B), (rea, aI x.g 800 rd), (rby, aI x.g 4 cb)] := by
    intro cd2 ⟨hj1, hj2, hj3⟩
    refine j_aload_n jb dX12_readRests_50 0 rfl ?_
    refine j_get jb f_X12_202 dX12_readRests_51 0 rfl rfl ?_
    have J68 : ∀ (pt : Int), ((1 ≤ pt ∧ pt ≤ 400) ∧ (cd2 = 0 → pt = rn / 2 ^ p.toNat ∧ o ≤ pt ∧ rn = 2 ^ p.toNat * pt)) → JW x 0 0 68 [(0, .ref n0), (1, .int (iI q)), (2, .int (iI kind)), (3, .int (iI o)), (4, .int (iI left)), (5, .int (iI p))] [.int (iI pt)] [(n0, oX12 th dp my sm st sz mo ms yb hpk pkr rt rk rx hsh si gt va vn wd wa re ua pkk pxx bp mk bi pl1 cd2 rn rch rtn rdp rki rea rby rsh), (st, aI x.g 2400 B), (rea, aI x.g 800 rd), (rby, aI x.g 4 cb)] := by
      intro pt hpt0
      refine j_istore (lv' := [(6, .int (iI pt)), (0, .ref n0), (1, .int (iI q)), (2, .int (iI kind)), (3, .int (iI o)), (4, .int (iI left)), (5, .int (iI p))]) jb dX12_readRests_68 (by decide) rfl ?_
      refine j_iconst jb dX12_readRests_70 ?_
      refine j_istore (lv' := [(7, .int (iI 0)), (6, .int (iI pt)), (0, .ref n0), (1, .int (iI q)), (2, .int (iI kind)), (3, .int (iI o)), (4, .int (iI left)), (5, .int (iI p))]) jb dX12_readRests_71 (by decide) rfl ?_
      refine j_iconst jb dX12_readRests_73 ?_
      refine j_istore (lv' := [(8, .int (iI 0)), (7, .int (iI 0)), (6, .int (iI pt)), (0, .ref n0), (1, .int (iI q)), (2, .int (iI kind)), (3, .int (iI o)), (4, .int (iI left)), (5, .int (iI p))]) jb dX12_readRests_74 (by decide) rfl ?_
      refine j_iconst jb dX12_readRests_76 ?_
      refine j_istore (lv' := [(9, .int (iI 0)), (8, .int (iI 0)), (7, .int (iI 0)), (6, .int (iI pt)), (0, .ref n0), (1, .int (iI q)), (2, .int (iI kind)), (3, .int (iI o)), (4, .int (iI left)), (5, .int (iI p))]) jb dX12_readRests_77 (by decide) rfl ?_
      have L79 : ∀ (fu : Nat) (k xx i cd3 pl3 : Int) (rd3 : Int → Int), ((0 ≤ i ∧ i ≤ rn) ∧ (0 ≤ k ∧ k ≤ 15) ∧ (0 ≤ xx ∧ xx ≤ 31) ∧ (cd3 = 0 → xx ≤ 24) ∧ (0 ≤ cd3 ∧ cd3 ≤ 20) ∧ (0 ≤ pl3 ∧ pl3 ≤ 8 * sz) ∧ contI R0 cd3 (hdI B sz left o sh9 c9 pt (2 ^ p.toNat) k xx i pl3 (fun t => rd3 (400 * q + t))) ∧ (cd3 = 0 → cd2 = 0 ∧ fitOn (fun t => rd3 (400 * q + t)) left (mxo i o)) ∧ (∀ j, (j < 400 * q ∨ 400 * q + 400 ≤ j) → rd3 j = rd j)) → (rn - i).toNat < fu → JW x 0 0 79 [(0, .ref n0), (1, .int (iI q)), (2, .int (iI kind)), (3, .int (iI o)), (4, .int (iI left)), (5, .int (iI p)), (6, .int (iI pt)), (7, .int (iI k)), (8, .int (iI xx)), (9, .int (iI i))] [] [(n0, oX12 th dp my sm st sz mo ms yb hpk pkr rt rk rx hsh si gt va vn wd wa re ua pkk pxx bp mk bi pl3 cd3 rn rch rtn rdp rki rea rby rsh), (st, aI x.g 2400 B), (rea, aI x.g 800 rd3), (rby, aI x.g 4 cb)] := by
        intro fu
        induction fu with
        | zero => intro k xx i cd3 pl3 rd3 _ hm; exact absurd hm (by omega)
        | succ fu ih =>
          intro k xx i cd3 pl3 rd3 ⟨hi1, hi2, hi3, hi4, hi5, hi6, hi7, hi8, hi9⟩ hm79
          have ih79 := ih
          clear ih
          refine j_iload jb dX12_readRests_79 9 rfl ?_
          refine j_aload_n jb dX12_readRests_81 0 rfl ?_
          refine j_get jb f_X12_224 dX12_readRests_82 0 rfl rfl ?_
          refine j_icmp_ge (tgt := 214) jb dX12_readRests_85 (by decide) (by omega) (by omega) (fun c_85 => ?_) (fun c_85 => ?_)
          · skip
            refine j_norm (lv' := []) (st' := []) (ws' := [(n0, oX12 th dp my sm st sz mo ms yb hpk pkr rt rk rx hsh si gt va vn wd wa re ua pkk pxx bp mk bi pl3 cd3 rn rch rtn rdp rki rea rby rsh), (st, aI x.g 2400 B), (rea, aI x.g 800 rd3), (rby, aI x.g 4 cb)]) [] [0, 1, 2, 3] rfl rfl (by decide) rfl ?_
            exact j_vret jb jr dX12_readRests_214 ⟨_, _, _, rfl, rfl, (by rw [← hR0]; refine ⟨?_, hi5, hi6, fun z => ?_, hi9⟩; { (by_cases z : cd3 = 0); { exact cI_end (hd_end hpt0.1.1 (hpt0.2 (hi8 z).1).2.2 (by omega) hi7) }; { exact cI_bad hi7 z } }; { have y := (hi8 z).2; have w9 := (hpt0.2 (hi8 z).1).2; have w8 : mxo i o = rn := (by unfold mxo; rw [if_neg (by have := Int.ediv_le_self (2 ^ p.toNat) (show 0 ≤ rn by omega); have := (hpt0.2 (hi8 z).1).1; omega)]; omega); rw [w8] at y; exact ⟨(rdM_st h2.1 (hj3 (hi8 z).1).2).1, y⟩ })⟩
          · skip
            refine j_aload_n jb dX12_readRests_88 0 rfl ?_
            refine j_get jb f_X12_202 dX12_readRests_89 0 rfl rfl ?_
            refine j_if_ne (tgt := 214) jb dX12_readRests_92 (by decide) (by omega) (fun c_92 => ?_) (fun c_92 => ?_)
            · skip
              refine j_norm (lv' := []) (st' := []) (ws' := [(n0, oX12 th dp my sm st sz mo ms yb hpk pkr rt rk rx hsh si gt va vn wd wa re ua pkk pxx bp mk bi pl3 cd3 rn rch rtn rdp rki rea rby rsh), (st, aI x.g 2400 B), (rea, aI x.g 800 rd3), (rby, aI x.g 4 cb)]) [] [0, 1, 2, 3] rfl rfl (by decide) rfl ?_
              exact j_vret jb jr dX12_readRests_214 ⟨_, _, _, rfl, rfl, (by rw [← hR0]; refine ⟨?_, hi5, hi6, fun z => ?_, hi9⟩; { (by_cases z : cd3 = 0); { exact cI_end (hd_end hpt0.1.1 (hpt0.2 (hi8 z).1).2.2 (by omega) hi7) }; { exact cI_bad hi7 z } }; { have y := (hi8 z).2; have w9 := (hpt0.2 (hi8 z).1).2; have w8 : mxo i o = rn := (by unfold mxo; rw [if_neg (by have := Int.ediv_le_self (2 ^ p.toNat) (show 0 ≤ rn by omega); have := (hpt0.2 (hi8 z).1).1; omega)]; omega); rw [w8] at y; exact ⟨(rdM_st h2.1 (hj3 (hi8 z).1).2).1, y⟩ })⟩
            · skip
              have hpt := hpt0.1
              have hcz := hpt0.2 (hi8 c_92).1
              have hda := div_at (i := i) hpt.1
              have hij : i / pt < 2 ^ p.toNat := by (refine (Int.ediv_lt_iff_lt_mul (by omega)).mpr ?_; rw [← hcz.2.2]; omega)
              refine j_iload jb dX12_readRests_95 9 rfl ?_
              refine j_iload jb dX12_readRests_97 6 rfl ?_
              refine j_irem jb dX12_readRests_99 (by omega) ?_
              have J143 : ∀ (k6 x6 cd6 pl6 : Int), ((0 ≤ k6 ∧ k6 ≤ 15) ∧ (0 ≤ x6 ∧ x6 ≤ 31) ∧ contI R0 cd6 (midR B sz left o sh9 c9 pt (2 ^ p.toNat) k6 x6 i pl6 (fun t => rd3 (400 * q + t))) ∧ (cd6 = 0 → x6 ≤ 24) ∧ (0 ≤ cd6 ∧ cd6 ≤ 20) ∧ (0 ≤ pl6 ∧ pl6 ≤ 8 * sz)) → JW x 0 0 143 [(0, .ref n0), (1, .int (iI q)), (2, .int (iI kind)), (3, .int (iI o)), (4, .int (iI left)), (5, .int (iI p)), (6, .int (iI pt)), (7, .int (iI k6)), (8, .int (iI x6)), (9, .int (iI i))] [] [(n0, oX12 th dp my sm st sz mo ms yb hpk pkr rt rk rx hsh si gt va vn wd wa re ua pkk pxx bp mk bi pl6 cd6 rn rch rtn rdp rki rea rby rsh), (st, aI x.g 2400 B), (rea, aI x.g 800 rd3), (rby, aI x.g 4 cb)] := by
                intro k6 x6 cd6 pl6 ⟨hm1, hm2, hm3, hm4, hm5, hm6⟩
                refine j_iload jb dX12_readRests_143 9 rfl ?_
                refine j_iload_n jb dX12_readRests_145 3 rfl ?_
                refine j_icmp_lt (tgt := 208) jb dX12_readRests_146 (by decide) (by omega) (by omega) (fun c_146 => ?_) (fun c_146 => ?_)
                · skip
                  refine j_iinc (lv' := [(9, .int (iI (i + 1))), (0, .ref n0), (1, .int (iI q)), (2, .int (iI kind)), (3, .int (iI o)), (4, .int (iI left)), (5, .int (iI p)), (6, .int (iI pt)), (7, .int (iI k6)), (8, .int (iI x6))]) jb dX12_readRests_208 9 rfl (by decide) rfl ?_
                  refine j_goto (tgt := 79) jb dX12_readRests_211 (by decide) ?_
                  refine j_norm (lv' := [(0, .ref n0), (1, .int (iI q)), (2, .int (iI kind)), (3, .int (iI o)), (4, .int (iI left)), (5, .int (iI p)), (6, .int (iI pt)), (7, .int (iI k6)), (8, .int (iI x6)), (9, .int (iI (i + 1)))]) (st' := []) (ws' := [(n0, oX12 th dp my sm st sz mo ms yb hpk pkr rt rk rx hsh si gt va vn wd wa re ua pkk pxx bp mk bi pl6 cd6 rn rch rtn rdp rki rea rby rsh), (st, aI x.g 2400 B), (rea, aI x.g 800 rd3), (rby, aI x.g 4 cb)]) [1, 2, 3, 4, 5, 6, 7, 8, 9, 0] [0, 1, 2, 3] rfl rfl (by decide) rfl ?_
                  exact ih79 k6 x6 (i + 1) cd6 pl6 rd3 (by first | (have z := mid_skip (B := B) (c := c9) (len := sz) (b := left) (sh := sh9) (each := pt) (cnt := 2 ^ p.toNat) (pl := pl6) (k := k6) (xx := x6) (v := (fun t => rd3 (400 * q + t))) c_146; rw [z] at hm3; exact ⟨by omega, hm1, hm2, hm4, hm5, hm6, mid_next hpt.1 ⟨ho.1, hcz.2.1⟩ hi1.1 hm3, fun y => ⟨(hi8 c_92).1, by have w9 : mxo (i + 1) o = mxo i o := (by unfold mxo; rw [if_pos c_146]; (by_cases w : i + 1 < o); { rw [if_pos w] }; { rw [if_neg w]; omega }); rw [w9]; exact (hi8 c_92).2⟩, hi9⟩) | (have z : (fun t => zup rd3 (400 * q + i) zv (400 * q + t)) = zup (fun t => rd3 (400 * q + t)) i zv := sh_up; exact ⟨by omega, hm1, hm2, fun y => hm4 (Decidable.by_contra (fun w => absurd (h163.2.1 w) (by have := hcc y; omega))), hg2, h163.2.2.2.1, by rw [z]; exact mid_next hpt.1 ⟨ho.1, hcz.2.1⟩ hi1.1 (by rw [hmx.2]; exact hg1), fun y => ⟨(hi8 c_92).1, by rw [z, hmx.2]; exact fitOn_up hfi (hg3 y)⟩, fun j a => by rw [zup_n (by omega)]; exact hi9 j a⟩)) (by omega)
                · skip
                  have hmx := mid_elem (B := B) (c := c9) (len := sz) (b := left) (sh := sh9) (each := pt) (cnt := 2 ^ p.toNat) (pl := pl6) (k := k6) (xx := x6) (v := (fun t => rd3 (400 * q + t))) c_146
                  have hme := hm3
                  rw [hmx.1] at hme
                  have hmo : mxo i o = i := if_neg c_146
                  have hfi : fitOn (fun t => rd3 (400 * q + t)) left i := by (have z := (hi8 c_92).2; rw [hmo] at z; exact z)
                  have hin : i < (i / pt + 1) * pt := hda.2.1
                  refine j_aload_n jb dX12_readRests_149 0 rfl ?_
                  refine j_iload_n jb dX12_readRests_150 1 rfl ?_
                  refine j_iload_n jb dX12_readRests_151 2 rfl ?_
                  refine j_iload_n jb dX12_readRests_152 3 rfl ?_
                  refine j_iload jb dX12_readRests_153 9 rfl ?_
                  refine j_callV (wr := [(st, aI x.g 2400 B)]) jb k_X12_foreseen i_X12_foreseen s_X12_foreseen l_X12_234 (C_X12_foreseen x.l x.g n0 my sm st yb pkr rt rk rx si gt va re ua mk rki rea rby th dp sz mo ms hpk hsh vn wd wa pkk pxx bp bi pl6 cd6 rn rch rtn rdp rsh q kind o i sh9 rd3 cb c9 hk hq (by omega) (by omega) (fitOn_v hle hfi) hcf hs99) 0 14 rfl rfl rfl [0, 2, 3] [1] (by decide) rfl rfl (by decide) (by decide) rfl rfl (Nat.le_of_ble_eq_true rfl) (by decide) dX12_readRests_155 (fun v w hp => ?_)
                  obtain ⟨rf, rfl, rfl, h155⟩ := hp
                  refine j_norm (lv' := [(0, .ref n0), (1, .int (iI q)), (2, .int (iI kind)), (3, .int (iI o)), (4, .int (iI left)), (5, .int (iI p)), (6, .int (iI pt)), (7, .int (iI k6)), (8, .int (iI x6)), (9, .int (iI i))]) (st' := [.long (lI rf)]) (ws' := [(n0, oX12 th dp my sm st sz mo ms yb hpk pkr rt rk rx hsh si gt va vn wd wa re ua pkk pxx bp mk bi pl6 cd6 rn rch rtn rdp rki rea rby rsh), (st, aI x.g 2400 B), (rea, aI x.g 800 rd3), (rby, aI x.g 4 cb)]) [0, 1, 2, 3, 4, 5, 6, 7, 8, 9] [1, 0, 2, 3] rfl rfl (by decide) rfl ?_
                  have hrf := ft_in (sh := sh9) ho (show o ≤ i by omega) hcf (fitOn_v hle hfi)
                  rw [← h155] at hrf
                  refine j_aload_n jb dX12_readRests_158 0 rfl ?_
                  refine j_iload jb dX12_readRests_159 7 rfl ?_
                  refine j_iload jb dX12_readRests_161 8 rfl ?_
                  refine j_callV (wr := [(rea, aI x.g 800 rd3), (rby, aI x.g 4 cb)]) jb k_X12_readRest i_X12_readRest s_X12_readRest l_X12_238 (C_X12_readRest x.l x.g n0 my sm st yb pkr rt rk rx si gt va re ua mk rki rea rby th dp sz mo ms hpk hsh vn wd wa pkk pxx bp bi pl6 cd6 rn rch rtn rdp rsh k6 x6 B (by omega) (by omega) hm4 hB (by omega) (by omega) (by omega)) 0 14 rfl rfl rfl [0, 1] [2, 3] (by decide) rfl rfl (by decide) (by decide) rfl rfl (Nat.le_of_ble_eq_true rfl) (by decide) dX12_readRests_163 (fun v w hp => ?_)
                  obtain ⟨rr, cd7, pl7, rfl, rfl, h163⟩ := hp
                  refine j_norm (lv' := [(0, .ref n0), (1, .int (iI q)), (2, .int (iI kind)), (3, .int (iI o)), (4, .int (iI left)), (5, .int (iI p)), (6, .int (iI pt)), (7, .int (iI k6)), (8, .int (iI x6)), (9, .int (iI i))]) (st' := [.long (lI rr), .long (lI rf)]) (ws' := [(n0, oX12 th dp my sm st sz mo ms yb hpk pkr rt rk rx hsh si gt va vn wd wa re ua pkk pxx bp mk bi pl7 cd7 rn rch rtn rdp rki rea rby rsh), (st, aI x.g 2400 B), (rea, aI x.g 800 rd3), (rby, aI x.g 4 cb)]) [0, 1, 2, 3, 4, 5, 6, 7, 8, 9] [2, 3, 0, 1] rfl rfl (by decide) rfl ?_
                  refine j_ladd jb dX12_readRests_166 ?_
                  refine j_genl (fun zv e_zv => ?_)
                  refine j_lstore (lv' := [(10, .long (lI zv)), (0, .ref n0), (1, .int (iI q)), (2, .int (iI kind)), (3, .int (iI o)), (4, .int (iI left)), (5, .int (iI p)), (6, .int (iI pt)), (7, .int (iI k6)), (8, .int (iI x6)), (9, .int (iI i))]) jb dX12_readRests_167 (by decide) rfl ?_
                  have e_zv2 : zv = ft c9 (fun t => rd3 (400 * q + t)) o sh9 i + rr := by (rw [e_zv, h155])
                  refine j_aload_n jb dX12_readRests_169 1 rfl ?_
                  refine j_get jb f_X12_202 dX12_readRests_170 0 rfl rfl ?_
                  have J192 : ∀ (cd8 : Int), (contI R0 cd8 (thenR (elemR B sz left k6 x6 o sh9 c9 ((i / pt + 1) * pt - (i + 1)).toNat (i + 1) pl7 (zup (fun t => rd3 (400 * q + t)) i zv)) (gR B sz left o sh9 c9 pt (2 ^ p.toNat) (i / pt))) ∧ (0 ≤ cd8 ∧ cd8 ≤ 20) ∧ (cd8 = 0 → fit zv left) ∧ (cd8 = 0 → cd7 = 0)) → JW x 0 0 192 [(0, .ref n0), (1, .int (iI q)), (2, .int (iI kind)), (3, .int (iI o)), (4, .int (iI left)), (5, .int (iI p)), (6, .int (iI pt)), (7, .int (iI k6)), (8, .int (iI x6)), (9, .int (iI i)), (10, .long (lI zv))] [] [(n0, oX12 th dp my sm st sz mo ms yb hpk pkr rt rk rx hsh si gt va vn wd wa re ua pkk pxx bp mk bi pl7 cd8 rn rch rtn rdp rki rea rby rsh), (st, aI x.g 2400 B), (rea, aI x.g 800 rd3), (rby, aI x.g 4 cb)] := by
                    intro cd8 ⟨hg1, hg2, hg3, hcc⟩
                    refine j_aload_n jb dX12_readRests_192 0 rfl ?_
                    refine j_get jb f_X12_63 dX12_readRests_193 0 rfl rfl ?_
                    refine j_sipush jb dX12_readRests_196 (by decide) ?_
                    refine j_iload_n jb dX12_readRests_199 1 rfl ?_
                    refine j_imul jb dX12_readRests_200 ?_
                    refine j_iload jb dX12_readRests_201 9 rfl ?_
                    refine j_iadd jb dX12_readRests_203 ?_
                    refine j_lload jb dX12_readRests_204 10 rfl ?_
                    refine j_l2i jb dX12_readRests_206 ?_
                    refine j_iast (ws' := [(n0, oX12 th dp my sm st sz mo ms yb hpk pkr rt rk rx hsh si gt va vn wd wa re ua pkk pxx bp mk bi pl7 cd8 rn rch rtn rdp rki rea rby rsh), (st, aI x.g 2400 B), (rea, aI x.g 800 (zup rd3 ((400 * q) + i) zv)), (rby, aI x.g 4 cb)]) jb dX12_readRests_207 2 rfl (by omega) (by decide) rfl ?_
                    refine j_iinc (lv' := [(9, .int (iI (i + 1))), (0, .ref n0), (1, .int (iI q)), (2, .int (iI kind)), (3, .int (iI o)), (4, .int (iI left)), (5, .int (iI p)), (6, .int (iI pt)), (7, .int (iI k6)), (8, .int (iI x6)), (10, .long (lI zv))]) jb dX12_readRests_208 9 rfl (by decide) rfl ?_
                    refine j_goto (tgt := 79) jb dX12_readRests_211 (by decide) ?_
                    refine j_norm (lv' := [(0, .ref n0), (1, .int (iI q)), (2, .int (iI kind)), (3, .int (iI o)), (4, .int (iI left)), (5, .int (iI p)), (6, .int (iI pt)), (7, .int (iI k6)), (8, .int (iI x6)), (9, .int (iI (i + 1)))]) (st' := []) (ws' := [(n0, oX12 th dp my sm st sz mo ms yb hpk pkr rt rk rx hsh si gt va vn wd wa re ua pkk pxx bp mk bi pl7 cd8 rn rch rtn rdp rki rea rby rsh), (st, aI x.g 2400 B), (rea, aI x.g 800 (zup rd3 ((400 * q) + i) zv)), (rby, aI x.g 4 cb)]) [1, 2, 3, 4, 5, 6, 7, 8, 9, 0] [0, 1, 2, 3] rfl rfl (by decide) rfl ?_
                    exact ih79 k6 x6 (i + 1) cd8 pl7 (zup rd3 ((400 * q) + i) zv) (by first | (have z := mid_skip (B := B) (c := c9) (len := sz) (b := left) (sh := sh9) (each := pt) (cnt := 2 ^ p.toNat) (pl := pl6) (k := k6) (xx := x6) (v := (fun t => rd3 (400 * q + t))) c_146; rw [z] at hm3; exact ⟨by omega, hm1, hm2, hm4, hm5, hm6, mid_next hpt.1 ⟨ho.1, hcz.2.1⟩ hi1.1 hm3, fun y => ⟨(hi8 c_92).1, by have w9 : mxo (i + 1) o = mxo i o := (by unfold mxo; rw [if_pos c_146]; (by_cases w : i + 1 < o); { rw [if_pos w] }; { rw [if_neg w]; omega }); rw [w9]; exact (hi8 c_92).2⟩, hi9⟩) | (have z : (fun t => zup rd3 (400 * q + i) zv (400 * q + t)) = zup (fun t => rd3 (400 * q + t)) i zv := sh_up; exact ⟨by omega, hm1, hm2, fun y => hm4 (Decidable.by_contra (fun w => absurd (h163.2.1 w) (by have := hcc y; omega))), hg2, h163.2.2.2.1, by rw [z]; exact mid_next hpt.1 ⟨ho.1, hcz.2.1⟩ hi1.1 (by rw [hmx.2]; exact hg1), fun y => ⟨(hi8 c_92).1, by rw [z, hmx.2]; exact fitOn_up hfi (hg3 y)⟩, fun j a => by rw [zup_n (by omega)]; exact hi9 j a⟩)) (by omega)
                  refine j_if_ne (tgt := 192) jb dX12_readRests_173 (by decide) (by omega) (fun c_173 => ?_) (fun c_173 => ?_)
                  · skip
                    refine j_norm (lv' := [(0, .ref n0), (1, .int (iI q)), (2, .int (iI kind)), (3, .int (iI o)), (4, .int (iI left)), (5, .int (iI p)), (6, .int (iI pt)), (7, .int (iI k6)), (8, .int (iI x6)), (9, .int (iI i)), (10, .long (lI zv))]) (st' := []) (ws' := [(n0, oX12 th dp my sm st sz mo ms yb hpk pkr rt rk rx hsh si gt va vn wd wa re ua pkk pxx bp mk bi pl7 cd7 rn rch rtn rdp rki rea rby rsh), (st, aI x.g 2400 B), (rea, aI x.g 800 rd3), (rby, aI x.g 4 cb)]) [1, 2, 3, 4, 5, 6, 7, 8, 9, 10, 0] [0, 1, 2, 3] rfl rfl (by decide) rfl ?_
                    exact J192 cd7 ⟨elemT_go hme hin h163.1 h163.2.1 e_zv2 (Or.inr (Or.inr ⟨c_173, rfl⟩)), h163.2.2.1, fun z => absurd z c_173, fun z => z⟩
                  · skip
                    refine j_lload jb dX12_readRests_176 0 rfl ?_
                    refine j_iload jb dX12_readRests_178 5 rfl ?_
                    refine j_callS (wr := [(n0, oX12 th dp my sm st sz mo ms yb hpk pkr rt rk rx hsh si gt va vn wd wa re ua pkk pxx bp mk bi pl7 cd7 rn rch rtn rdp rki rea rby rsh), (st, aI x.g 2400 B), (rea, aI x.g 800 rd3), (rby, aI x.g 4 cb)]) jb k_X12_fits t_X12_fits l_X12_78 (C_X12_fits x.l x.g zv left (by omega) (by omega)) [] [0, 1, 2, 3] (by decide) rfl rfl (by decide) (by decide) rfl rfl (Nat.le_of_ble_eq_true rfl) (by decide) dX12_readRests_180 (fun v w hp => ?_)
                    obtain ⟨rfl, rfl⟩ := hp
                    refine j_norm (lv' := [(10, .long (lI zv)), (0, .ref n0), (1, .int (iI q)), (2, .int (iI kind)), (3, .int (iI o)), (4, .int (iI left)), (5, .int (iI p)), (6, .int (iI pt)), (7, .int (iI k6)), (8, .int (iI x6)), (9, .int (iI i))]) (st' := [.int (iI (b2i (fit zv left)))]) (ws' := [(n0, oX12 th dp my sm st sz mo ms yb hpk pkr rt rk rx hsh si gt va vn wd wa re ua pkk pxx bp mk bi pl7 cd7 rn rch rtn rdp rki rea rby rsh), (st, aI x.g 2400 B), (rea, aI x.g 800 rd3), (rby, aI x.g 4 cb)]) [0, 1, 2, 3, 4, 5, 6, 7, 8, 9, 10] [0, 1, 2, 3] rfl rfl (by decide) rfl ?_
                    refine j_ifb_ne (tgt := 192) jb dX12_readRests_183 (by decide) (fun c_183 => ?_) (fun c_183 => ?_)
                    · skip
                      refine j_norm (lv' := [(0, .ref n0), (1, .int (iI q)), (2, .int (iI kind)), (3, .int (iI o)), (4, .int (iI left)), (5, .int (iI p)), (6, .int (iI pt)), (7, .int (iI k6)), (8, .int (iI x6)), (9, .int (iI i)), (10, .long (lI zv))]) (st' := []) (ws' := [(n0, oX12 th dp my sm st sz mo ms yb hpk pkr rt rk rx hsh si gt va vn wd wa re ua pkk pxx bp mk bi pl7 cd7 rn rch rtn rdp rki rea rby rsh), (st, aI x.g 2400 B), (rea, aI x.g 800 rd3), (rby, aI x.g 4 cb)]) [1, 2, 3, 4, 5, 6, 7, 8, 9, 10, 0] [0, 1, 2, 3] rfl rfl (by decide) rfl ?_
                      exact J192 cd7 ⟨elemT_go hme hin h163.1 h163.2.1 e_zv2 (Or.inl ⟨c_173, c_183, rfl⟩), h163.2.2.1, fun _ => c_183, fun z => z⟩
                    · skip
                      refine j_aload_n jb dX12_readRests_186 1 rfl ?_
                      refine j_bipush jb dX12_readRests_187 (by decide) ?_
                      refine j_callV (wr := [(st, aI x.g 2400 B), (rea, aI x.g 800 rd3), (rby, aI x.g 4 cb)]) jb k_X12_wrong i_X12_wrong s_X12_wrong l_X12_208 (C_X12_wrong x.l x.g n0 my sm st yb pkr rt rk rx si gt va re ua mk rki rea rby th dp sz mo ms hpk hsh vn wd wa pkk pxx bp bi pl7 cd7 rn rch rtn rdp rsh 8 (by omega)) 0 14 rfl rfl rfl [0] [1, 2, 3] (by decide) rfl rfl (by decide) (by decide) rfl rfl (Nat.le_of_ble_eq_true rfl) (by decide) dX12_readRests_189 (fun v w hp => ?_)
                      obtain ⟨cd8, rfl, rfl, h189⟩ := hp
                      refine j_norm (lv' := [(10, .long (lI zv)), (0, .ref n0), (1, .int (iI q)), (2, .int (iI kind)), (3, .int (iI o)), (4, .int (iI left)), (5, .int (iI p)), (6, .int (iI pt)), (7, .int (iI k6)), (8, .int (iI x6)), (9, .int (iI i))]) (st' := []) (ws' := [(n0, oX12 th dp my sm st sz mo ms yb hpk pkr rt rk rx hsh si gt va vn wd wa re ua pkk pxx bp mk bi pl7 cd8 rn rch rtn rdp rki rea rby rsh), (st, aI x.g 2400 B), (rea, aI x.g 800 rd3), (rby, aI x.g 4 cb)]) [0, 1, 2, 3, 4, 5, 6, 7, 8, 9, 10] [3, 0, 1, 2] rfl rfl (by decide) rfl ?_
                      refine j_norm (lv' := [(0, .ref n0), (1, .int (iI q)), (2, .int (iI kind)), (3, .int (iI o)), (4, .int (iI left)), (5, .int (iI p)), (6, .int (iI pt)), (7, .int (iI k6)), (8, .int (iI x6)), (9, .int (iI i)), (10, .long (lI zv))]) (st' := []) (ws' := [(n0, oX12 th dp my sm st sz mo ms yb hpk pkr rt rk rx hsh si gt va vn wd wa re ua pkk pxx bp mk bi pl7 cd8 rn rch rtn rdp rki rea rby rsh), (st, aI x.g 2400 B), (rea, aI x.g 800 rd3), (rby, aI x.g 4 cb)]) [1, 2, 3, 4, 5, 6, 7, 8, 9, 10, 0] [0, 1, 2, 3] rfl rfl (by decide) rfl ?_
                      exact J192 cd8 (by have z8 : cd8 = 8 := (by rw [h189, ← flt_yes, if_pos c_173]); exact ⟨elemT_go hme hin h163.1 h163.2.1 e_zv2 (Or.inr (Or.inl ⟨c_173, c_183, z8⟩)), by omega, fun z => absurd z (by omega), fun z => absurd z (by omega)⟩)
              refine j_if_ne (tgt := 143) jb dX12_readRests_100 (by decide) (by omega) (fun c_100 => ?_) (fun c_100 => ?_)
              · skip
                refine j_norm (lv' := [(0, .ref n0), (1, .int (iI q)), (2, .int (iI kind)), (3, .int (iI o)), (4, .int (iI left)), (5, .int (iI p)), (6, .int (iI pt)), (7, .int (iI k)), (8, .int (iI xx)), (9, .int (iI i))]) (st' := []) (ws' := [(n0, oX12 th dp my sm st sz mo ms yb hpk pkr rt rk rx hsh si gt va vn wd wa re ua pkk pxx bp mk bi pl3 cd3 rn rch rtn rdp rki rea rby rsh), (st, aI x.g 2400 B), (rea, aI x.g 800 rd3), (rby, aI x.g 4 cb)]) [0, 1, 2, 3, 4, 5, 6, 7, 8, 9] [0, 1, 2, 3] rfl rfl (by decide) rfl ?_
                exact J143 k xx cd3 pl3 ⟨hi2, hi3, mid_of c_100 hi7, hi4, hi5, hi6⟩
              · skip
                refine j_aload_n jb dX12_readRests_103 0 rfl ?_
                refine j_iconst jb dX12_readRests_104 ?_
                refine j_callV (wr := [(rea, aI x.g 800 rd3), (rby, aI x.g 4 cb)]) jb k_X12_number i_X12_number s_X12_number l_X12_214 (C_X12_number x.l x.g n0 my sm st yb pkr rt rk rx si gt va re ua mk rki rea rby th dp sz mo ms hpk hsh vn wd wa pkk pxx bp bi pl3 cd3 rn rch rtn rdp rsh 4 B (by decide) hB (by omega) (by omega) (by omega)) 0 14 rfl rfl rfl [0, 1] [2, 3] (by decide) rfl rfl (by decide) (by decide) rfl rfl (Nat.le_of_ble_eq_true rfl) (by decide) dX12_readRests_105 (fun v w hp => ?_)
                obtain ⟨k4, cd4, pl4, rfl, rfl, h105⟩ := hp
                refine j_norm (lv' := [(0, .ref n0), (1, .int (iI q)), (2, .int (iI kind)), (3, .int (iI o)), (4, .int (iI left)), (5, .int (iI p)), (6, .int (iI pt)), (7, .int (iI k)), (8, .int (iI xx)), (9, .int (iI i))]) (st' := [.long (lI k4)]) (ws' := [(n0, oX12 th dp my sm st sz mo ms yb hpk pkr rt rk rx hsh si gt va vn wd wa re ua pkk pxx bp mk bi pl4 cd4 rn rch rtn rdp rki rea rby rsh), (st, aI x.g 2400 B), (rea, aI x.g 800 rd3), (rby, aI x.g 4 cb)]) [0, 1, 2, 3, 4, 5, 6, 7, 8, 9] [2, 3, 0, 1] rfl rfl (by decide) rfl ?_
                have hk4 : 0 ≤ k4 ∧ k4 < 16 := h105.1.2.2.2.1
                have hc4 := cM_get (part_in hi1.1 c_100 hpt.1 ⟨ho.1, hcz.2.1⟩ hij hi7) h105.1
                refine j_l2i jb dX12_readRests_108 ?_
                refine j_istore (lv' := [(7, .int (iI k4)), (0, .ref n0), (1, .int (iI q)), (2, .int (iI kind)), (3, .int (iI o)), (4, .int (iI left)), (5, .int (iI p)), (6, .int (iI pt)), (8, .int (iI xx)), (9, .int (iI i))]) jb dX12_readRests_109 (by decide) rfl ?_
                refine j_iload jb dX12_readRests_111 0 rfl ?_
                refine j_bipush jb dX12_readRests_113 (by decide) ?_
                have J128 : ∀ (xn cd5 pl5 : Int), ((0 ≤ xn ∧ xn ≤ 31) ∧ contI R0 cd5 (fltR (24 < xn) 7 (midR B sz left o sh9 c9 pt (2 ^ p.toNat) k4 xn i pl5 (fun t => rd3 (400 * q + t)))) ∧ (0 ≤ cd5 ∧ cd5 ≤ 20) ∧ (0 ≤ pl5 ∧ pl5 ≤ 8 * sz)) → JW x 0 0 128 [(0, .ref n0), (1, .int (iI q)), (2, .int (iI kind)), (3, .int (iI o)), (4, .int (iI left)), (5, .int (iI p)), (6, .int (iI pt)), (7, .int (iI k4)), (8, .int (iI xx)), (9, .int (iI i))] [.int (iI xn)] [(n0, oX12 th dp my sm st sz mo ms yb hpk pkr rt rk rx hsh si gt va vn wd wa re ua pkk pxx bp mk bi pl5 cd5 rn rch rtn rdp rki rea rby rsh), (st, aI x.g 2400 B), (rea, aI x.g 800 rd3), (rby, aI x.g 4 cb)] := by
                  intro xn cd5 pl5 ⟨hx1, hx2, hx3, hx4⟩
                  refine j_istore (lv' := [(8, .int (iI xn)), (0, .ref n0), (1, .int (iI q)), (2, .int (iI kind)), (3, .int (iI o)), (4, .int (iI left)), (5, .int (iI p)), (6, .int (iI pt)), (7, .int (iI k4)), (9, .int (iI i))]) jb dX12_readRests_128 (by decide) rfl ?_
                  refine j_iload jb dX12_readRests_130 0 rfl ?_
                  refine j_bipush jb dX12_readRests_132 (by decide) ?_
                  refine j_icmp_le (tgt := 143) jb dX12_readRests_134 (by decide) (by omega) (by omega) (fun c_134 => ?_) (fun c_134 => ?_)
                  · skip
                    refine j_norm (lv' := [(0, .ref n0), (1, .int (iI q)), (2, .int (iI kind)), (3, .int (iI o)), (4, .int (iI left)), (5, .int (iI p)), (6, .int (iI pt)), (7, .int (iI k4)), (8, .int (iI xn)), (9, .int (iI i))]) (st' := []) (ws' := [(n0, oX12 th dp my sm st sz mo ms yb hpk pkr rt rk rx hsh si gt va vn wd wa re ua pkk pxx bp mk bi pl5 cd5 rn rch rtn rdp rki rea rby rsh), (st, aI x.g 2400 B), (rea, aI x.g 800 rd3), (rby, aI x.g 4 cb)]) [1, 2, 3, 4, 5, 6, 7, 8, 0, 9] [0, 1, 2, 3] rfl rfl (by decide) rfl ?_
                    exact J143 k4 xn cd5 pl5 ⟨by omega, hx1, cI_flt hx2 (flt_no _ 7) (by decide) (Or.inr ⟨rfl, by omega⟩), fun _ => by omega, hx3, hx4⟩
                  · skip
                    refine j_aload_n jb dX12_readRests_137 1 rfl ?_
                    refine j_bipush jb dX12_readRests_138 (by decide) ?_
                    refine j_callV (wr := [(st, aI x.g 2400 B), (rea, aI x.g 800 rd3), (rby, aI x.g 4 cb)]) jb k_X12_wrong i_X12_wrong s_X12_wrong l_X12_208 (C_X12_wrong x.l x.g n0 my sm st yb pkr rt rk rx si gt va re ua mk rki rea rby th dp sz mo ms hpk hsh vn wd wa pkk pxx bp bi pl5 cd5 rn rch rtn rdp rsh 7 (by omega)) 0 14 rfl rfl rfl [0] [1, 2, 3] (by decide) rfl rfl (by decide) (by decide) rfl rfl (Nat.le_of_ble_eq_true rfl) (by decide) dX12_readRests_140 (fun v w hp => ?_)
                    obtain ⟨cd7, rfl, rfl, h140⟩ := hp
                    refine j_norm (lv' := [(8, .int (iI xn)), (0, .ref n0), (1, .int (iI q)), (2, .int (iI kind)), (3, .int (iI o)), (4, .int (iI left)), (5, .int (iI p)), (6, .int (iI pt)), (7, .int (iI k4)), (9, .int (iI i))]) (st' := []) (ws' := [(n0, oX12 th dp my sm st sz mo ms yb hpk pkr rt rk rx hsh si gt va vn wd wa re ua pkk pxx bp mk bi pl5 cd7 rn rch rtn rdp rki rea rby rsh), (st, aI x.g 2400 B), (rea, aI x.g 800 rd3), (rby, aI x.g 4 cb)]) [0, 1, 2, 3, 4, 5, 6, 7, 8, 9] [3, 0, 1, 2] rfl rfl (by decide) rfl ?_
                    refine j_norm (lv' := [(0, .ref n0), (1, .int (iI q)), (2, .int (iI kind)), (3, .int (iI o)), (4, .int (iI left)), (5, .int (iI p)), (6, .int (iI pt)), (7, .int (iI k4)), (8, .int (iI xn)), (9, .int (iI i))]) (st' := []) (ws' := [(n0, oX12 th dp my sm st sz mo ms yb hpk pkr rt rk rx hsh si gt va vn wd wa re ua pkk pxx bp mk bi pl5 cd7 rn rch rtn rdp rki rea rby rsh), (st, aI x.g 2400 B), (rea, aI x.g 800 rd3), (rby, aI x.g 4 cb)]) [1, 2, 3, 4, 5, 6, 7, 8, 0, 9] [0, 1, 2, 3] rfl rfl (by decide) rfl ?_
                    exact J143 k4 xn cd7 pl5 ⟨by omega, hx1, cI_flt hx2 h140 (by decide) (Or.inl ⟨by decide, by omega⟩), fun z => absurd (flt_0 h140 (by decide) z).1 (by decide), flt_in h140 hx3 (by decide), hx4⟩
                refine j_icmp_ne (tgt := 127) jb dX12_readRests_115 (by decide) (by omega) (by omega) (fun c_115 => ?_) (fun c_115 => ?_)
                · skip
                  refine j_iconst jb dX12_readRests_127 ?_
                  refine j_norm (lv' := [(0, .ref n0), (1, .int (iI q)), (2, .int (iI kind)), (3, .int (iI o)), (4, .int (iI left)), (5, .int (iI p)), (6, .int (iI pt)), (7, .int (iI k4)), (8, .int (iI xx)), (9, .int (iI i))]) (st' := [.int (iI 0)]) (ws' := [(n0, oX12 th dp my sm st sz mo ms yb hpk pkr rt rk rx hsh si gt va vn wd wa re ua pkk pxx bp mk bi pl4 cd4 rn rch rtn rdp rki rea rby rsh), (st, aI x.g 2400 B), (rea, aI x.g 800 rd3), (rby, aI x.g 4 cb)]) [1, 2, 3, 4, 5, 6, 7, 0, 8, 9] [0, 1, 2, 3] rfl rfl (by decide) rfl ?_
                  exact J128 0 cd4 pl4 (by have z := hc4; unfold kxI at z; rw [if_neg c_115] at z; exact ⟨by decide, z, h105.2.1, h105.2.2⟩)
                · skip
                  refine j_aload_n jb dX12_readRests_118 1 rfl ?_
                  refine j_iconst jb dX12_readRests_119 ?_
                  refine j_callV (wr := [(rea, aI x.g 800 rd3), (rby, aI x.g 4 cb)]) jb k_X12_number i_X12_number s_X12_number l_X12_214 (C_X12_number x.l x.g n0 my sm st yb pkr rt rk rx si gt va re ua mk rki rea rby th dp sz mo ms hpk hsh vn wd wa pkk pxx bp bi pl4 cd4 rn rch rtn rdp rsh 5 B (by decide) hB (by omega) (by omega) (by omega)) 0 14 rfl rfl rfl [0, 1] [2, 3] (by decide) rfl rfl (by decide) (by decide) rfl rfl (Nat.le_of_ble_eq_true rfl) (by decide) dX12_readRests_120 (fun v w hp => ?_)
                  obtain ⟨x5, cd5, pl5, rfl, rfl, h120⟩ := hp
                  refine j_norm (lv' := [(7, .int (iI k4)), (0, .ref n0), (1, .int (iI q)), (2, .int (iI kind)), (3, .int (iI o)), (4, .int (iI left)), (5, .int (iI p)), (6, .int (iI pt)), (8, .int (iI xx)), (9, .int (iI i))]) (st' := [.long (lI x5)]) (ws' := [(n0, oX12 th dp my sm st sz mo ms yb hpk pkr rt rk rx hsh si gt va vn wd wa re ua pkk pxx bp mk bi pl5 cd5 rn rch rtn rdp rki rea rby rsh), (st, aI x.g 2400 B), (rea, aI x.g 800 rd3), (rby, aI x.g 4 cb)]) [0, 1, 2, 3, 4, 5, 6, 7, 8, 9] [2, 3, 0, 1] rfl rfl (by decide) rfl ?_
                  have hx5 : 0 ≤ x5 ∧ x5 < 32 := h120.1.2.2.2.1
                  refine j_l2i jb dX12_readRests_123 ?_
                  refine j_goto (tgt := 128) jb dX12_readRests_124 (by decide) ?_
                  refine j_norm (lv' := [(0, .ref n0), (1, .int (iI q)), (2, .int (iI kind)), (3, .int (iI o)), (4, .int (iI left)), (5, .int (iI p)), (6, .int (iI pt)), (7, .int (iI k4)), (8, .int (iI xx)), (9, .int (iI i))]) (st' := [.int (iI x5)]) (ws' := [(n0, oX12 th dp my sm st sz mo ms yb hpk pkr rt rk rx hsh si gt va vn wd wa re ua pkk pxx bp mk bi pl5 cd5 rn rch rtn rdp rki rea rby rsh), (st, aI x.g 2400 B), (rea, aI x.g 800 rd3), (rby, aI x.g 4 cb)]) [1, 2, 3, 4, 5, 6, 7, 0, 8, 9] [0, 1, 2, 3] rfl rfl (by decide) rfl ?_
                  exact J128 x5 cd5 pl5 (by have z := hc4; unfold kxI at z; rw [if_pos c_115] at z; exact ⟨by omega, cM_get (f := fun xx p2 => fltR (24 < xx) 7 (midR B sz left o sh9 c9 pt (2 ^ p.toNat) k4 xx i p2 (fun t => rd3 (400 * q + t)))) z h120.1, h120.2.1, h120.2.2⟩)
      refine j_norm (lv' := [(0, .ref n0), (1, .int (iI q)), (2, .int (iI kind)), (3, .int (iI o)), (4, .int (iI left)), (5, .int (iI p)), (6, .int (iI pt)), (7, .int (iI 0)), (8, .int (iI 0)), (9, .int (iI 0))]) (st' := []) (ws' := [(n0, oX12 th dp my sm st sz mo ms yb hpk pkr rt rk rx hsh si gt va vn wd wa re ua pkk pxx bp mk bi pl1 cd2 rn rch rtn rdp rki rea rby rsh), (st, aI x.g 2400 B), (rea, aI x.g 800 rd), (rby, aI x.g 4 cb)]) [4, 5, 6, 7, 8, 9, 3, 2, 1, 0] [0, 1, 2, 3] rfl rfl (by decide) rfl ?_
      exact L79 _ 0 0 0 cd2 pl1 rd ⟨by omega, by decide, by decide, fun _ => by decide, hj2, h2.2.2, (by (by_cases z : cd2 = 0); { rw [hd_start hpt0.1.1 rfl, (hpt0.2 z).1]; exact hj1 }; { exact cI_any hj1 z }), fun z => ⟨z, by (have y : mxo 0 o = o := (by unfold mxo; (by_cases w : 0 < o); { rw [if_pos w] }; { rw [if_neg w]; omega })); rw [y]; exact hf0 (rdM_st h2.1 (hj3 z).2).1⟩, fun _ _ => rfl⟩ (Nat.lt_succ_self _)
    refine j_if_ne (tgt := 67) jb dX12_readRests_54 (by decide) (by omega) (fun c_54 => ?_) (fun c_54 => ?_)
    · skip
      refine j_iconst jb dX12_readRests_67 ?_
      refine j_norm (lv' := [(0, .ref n0), (1, .int (iI q)), (2, .int (iI kind)), (3, .int (iI o)), (4, .int (iI left)), (5, .int (iI p))]) (st' := [.int (iI 1)]) (ws' := [(n0, oX12 th dp my sm st sz mo ms yb hpk pkr rt rk rx hsh si gt va vn wd wa re ua pkk pxx bp mk bi pl1 cd2 rn rch rtn rdp rki rea rby rsh), (st, aI x.g 2400 B), (rea, aI x.g 800 rd), (rby, aI x.g 4 cb)]) [0, 1, 2, 3, 4, 5] [0, 1, 2, 3] rfl rfl (by decide) rfl ?_
      exact J68 1 ⟨by decide, fun z => absurd z c_54⟩
    · skip
      refine j_aload_n jb dX12_readRests_57 0 rfl ?_
      refine j_get jb f_X12_224 dX12_readRests_58 0 rfl rfl ?_
      refine j_iload jb dX12_readRests_61 5 rfl ?_
      refine j_ishr jb dX12_readRests_63 (by omega) (by omega) ?_
      refine j_goto (tgt := 68) jb dX12_readRests_64 (by decide) ?_
      refine j_norm (lv' := [(0, .ref n0), (1, .int (iI q)), (2, .int (iI kind)), (3, .int (iI o)), (4, .int (iI left)), (5, .int (iI p))]) (st' := [.int (iI (rn / 2 ^ p.toNat))]) (ws' := [(n0, oX12 th dp my sm st sz mo ms yb hpk pkr rt rk rx hsh si gt va vn wd wa re ua pkk pxx bp mk bi pl1 cd2 rn rch rtn rdp rki rea rby rsh), (st, aI x.g 2400 B), (rea, aI x.g 800 rd), (rby, aI x.g 4 cb)]) [0, 1, 2, 3, 4, 5] [0, 1, 2, 3] rfl rfl (by decide) rfl ?_
      exact J68 (rn / 2 ^ p.toNat) (by have z := mayP_1 hp8.1 hn (hj3 c_54).1; exact ⟨z.1, fun _ => ⟨rfl, z.2⟩⟩)
  refine j_if_ne (tgt := 50) jb dX12_readRests_12 (by decide) (by omega) (fun c_12 => ?_) (fun c_12 => ?_)
  · skip
    refine j_norm (lv' := [(0, .ref n0), (1, .int (iI q)), (2, .int (iI kind)), (3, .int (iI o)), (4, .int (iI left)), (5, .int (iI p))]) (st' := []) (ws' := [(n0, oX12 th dp my sm st sz mo ms yb hpk pkr rt rk rx hsh si gt va vn wd wa re ua pkk pxx bp mk bi pl1 cd1 rn rch rtn rdp rki rea rby rsh), (st, aI x.g 2400 B), (rea, aI x.g 800 rd), (rby, aI x.g 4 cb)]) [1, 2, 3, 4, 5, 0] [0, 1, 2, 3] rfl rfl (by decide) rfl ?_
    exact J50 cd1 ⟨cI_any hc1 c_12, h2.2.1, fun z => absurd z c_12⟩
  · skip
    refine j_iload jb dX12_readRests_15 0 rfl ?_
    refine j_iconst jb dX12_readRests_17 ?_
    refine j_icmp_gt (tgt := 44) jb dX12_readRests_18 (by decide) (by omega) (by omega) (fun c_18 => ?_) (fun c_18 => ?_)
    · skip
      refine j_aload_n jb dX12_readRests_44 1 rfl ?_
      refine j_bipush jb dX12_readRests_45 (by decide) ?_
      refine j_callV (wr := [(st, aI x.g 2400 B), (rea, aI x.g 800 rd), (rby, aI x.g 4 cb)]) jb k_X12_wrong i_X12_wrong s_X12_wrong l_X12_208 (C_X12_wrong x.l x.g n0 my sm st yb pkr rt rk rx si gt va re ua mk rki rea rby th dp sz mo ms hpk hsh vn wd wa pkk pxx bp bi pl1 cd1 rn rch rtn rdp rsh 6 (by omega)) 0 14 rfl rfl rfl [0] [1, 2, 3] (by decide) rfl rfl (by decide) (by decide) rfl rfl (Nat.le_of_ble_eq_true rfl) (by decide) dX12_readRests_47 (fun v w hp => ?_)
      obtain ⟨cd2, rfl, rfl, h47⟩ := hp
      refine j_norm (lv' := [(5, .int (iI p)), (0, .ref n0), (1, .int (iI q)), (2, .int (iI kind)), (3, .int (iI o)), (4, .int (iI left))]) (st' := []) (ws' := [(n0, oX12 th dp my sm st sz mo ms yb hpk pkr rt rk rx hsh si gt va vn wd wa re ua pkk pxx bp mk bi pl1 cd2 rn rch rtn rdp rki rea rby rsh), (st, aI x.g 2400 B), (rea, aI x.g 800 rd), (rby, aI x.g 4 cb)]) [0, 1, 2, 3, 4, 5] [3, 0, 1, 2] rfl rfl (by decide) rfl ?_
      refine j_norm (lv' := [(0, .ref n0), (1, .int (iI q)), (2, .int (iI kind)), (3, .int (iI o)), (4, .int (iI left)), (5, .int (iI p))]) (st' := []) (ws' := [(n0, oX12 th dp my sm st sz mo ms yb hpk pkr rt rk rx hsh si gt va vn wd wa re ua pkk pxx bp mk bi pl1 cd2 rn rch rtn rdp rki rea rby rsh), (st, aI x.g 2400 B), (rea, aI x.g 800 rd), (rby, aI x.g 4 cb)]) [1, 2, 3, 4, 5, 0] [0, 1, 2, 3] rfl rfl (by decide) rfl ?_
      exact J50 cd2 ⟨cI_flt hc1 h47 (by decide) (Or.inl ⟨by decide, fun z => by have z1 := z.1; have z2 := z.2.1; have z3 := z.2.2; omega⟩), flt_in h47 h2.2.1 (by decide), fun z => absurd (flt_0 h47 (by decide) z).1 (by decide)⟩
    · skip
      refine j_aload_n jb dX12_readRests_21 1 rfl ?_
      refine j_get jb f_X12_224 dX12_readRests_22 0 rfl rfl ?_
      refine j_iconst jb dX12_readRests_25 ?_
      refine j_iload jb dX12_readRests_26 0 rfl ?_
      refine j_ishl jb dX12_readRests_28 (by omega) ?_
      refine j_topi (2 ^ p.toNat) (Int.one_mul _) ?_
      refine j_irem jb dX12_readRests_29 (by omega) ?_
      refine j_if_ne (tgt := 44) jb dX12_readRests_30 (by decide) (by omega) (fun c_30 => ?_) (fun c_30 => ?_)
      · skip
        refine j_aload_n jb dX12_readRests_44 1 rfl ?_
        refine j_bipush jb dX12_readRests_45 (by decide) ?_
        refine j_callV (wr := [(st, aI x.g 2400 B), (rea, aI x.g 800 rd), (rby, aI x.g 4 cb)]) jb k_X12_wrong i_X12_wrong s_X12_wrong l_X12_208 (C_X12_wrong x.l x.g n0 my sm st yb pkr rt rk rx si gt va re ua mk rki rea rby th dp sz mo ms hpk hsh vn wd wa pkk pxx bp bi pl1 cd1 rn rch rtn rdp rsh 6 (by omega)) 0 14 rfl rfl rfl [0] [1, 2, 3] (by decide) rfl rfl (by decide) (by decide) rfl rfl (Nat.le_of_ble_eq_true rfl) (by decide) dX12_readRests_47 (fun v w hp => ?_)
        obtain ⟨cd2, rfl, rfl, h47⟩ := hp
        refine j_norm (lv' := [(5, .int (iI p)), (0, .ref n0), (1, .int (iI q)), (2, .int (iI kind)), (3, .int (iI o)), (4, .int (iI left))]) (st' := []) (ws' := [(n0, oX12 th dp my sm st sz mo ms yb hpk pkr rt rk rx hsh si gt va vn wd wa re ua pkk pxx bp mk bi pl1 cd2 rn rch rtn rdp rki rea rby rsh), (st, aI x.g 2400 B), (rea, aI x.g 800 rd), (rby, aI x.g 4 cb)]) [0, 1, 2, 3, 4, 5] [3, 0, 1, 2] rfl rfl (by decide) rfl ?_
        refine j_norm (lv' := [(0, .ref n0), (1, .int (iI q)), (2, .int (iI kind)), (3, .int (iI o)), (4, .int (iI left)), (5, .int (iI p))]) (st' := []) (ws' := [(n0, oX12 th dp my sm st sz mo ms yb hpk pkr rt rk rx hsh si gt va vn wd wa re ua pkk pxx bp mk bi pl1 cd2 rn rch rtn rdp rki rea rby rsh), (st, aI x.g 2400 B), (rea, aI x.g 800 rd), (rby, aI x.g 4 cb)]) [1, 2, 3, 4, 5, 0] [0, 1, 2, 3] rfl rfl (by decide) rfl ?_
        exact J50 cd2 ⟨cI_flt hc1 h47 (by decide) (Or.inl ⟨by decide, fun z => by have z1 := z.1; have z2 := z.2.1; have z3 := z.2.2; omega⟩), flt_in h47 h2.2.1 (by decide), fun z => absurd (flt_0 h47 (by decide) z).1 (by decide)⟩
      · skip
        refine j_aload_n jb dX12_readRests_33 1 rfl ?_
        refine j_get jb f_X12_224 dX12_readRests_34 0 rfl rfl ?_
        refine j_iload jb dX12_readRests_37 0 rfl ?_
        refine j_ishr jb dX12_readRests_39 (by omega) (by omega) ?_
        refine j_iload_n jb dX12_readRests_40 4 rfl ?_
        refine j_icmp_ge (tgt := 50) jb dX12_readRests_41 (by decide) (by omega) (by omega) (fun c_41 => ?_) (fun c_41 => ?_)
        · skip
          refine j_norm (lv' := [(0, .ref n0), (1, .int (iI q)), (2, .int (iI kind)), (3, .int (iI o)), (4, .int (iI left)), (5, .int (iI p))]) (st' := []) (ws' := [(n0, oX12 th dp my sm st sz mo ms yb hpk pkr rt rk rx hsh si gt va vn wd wa re ua pkk pxx bp mk bi pl1 cd1 rn rch rtn rdp rki rea rby rsh), (st, aI x.g 2400 B), (rea, aI x.g 800 rd), (rby, aI x.g 4 cb)]) [1, 2, 3, 4, 5, 0] [0, 1, 2, 3] rfl rfl (by decide) rfl ?_
          exact J50 cd1 ⟨cI_flt hc1 (flt_no _ 6) (by decide) (Or.inr ⟨rfl, fun z => z ⟨by omega, by omega, by omega⟩⟩), h2.2.1, fun z => ⟨⟨by omega, by omega, by omega⟩, z⟩⟩
        · skip
          refine j_aload_n jb dX12_readRests_44 1 rfl ?_
          refine j_bipush jb dX12_readRests_45 (by decide) ?_
          refine j_callV (wr := [(st, aI x.g 2400 B), (rea, aI x.g 800 rd), (rby, aI x.g 4 cb)]) jb k_X12_wrong i_X12_wrong s_X12_wrong l_X12_208 (C_X12_wrong x.l x.g n0 my sm st yb pkr rt rk rx si gt va re ua mk rki rea rby th dp sz mo ms hpk hsh vn wd wa pkk pxx bp bi pl1 cd1 rn rch rtn rdp rsh 6 (by omega)) 0 14 rfl rfl rfl [0] [1, 2, 3] (by decide) rfl rfl (by decide) (by decide) rfl rfl (Nat.le_of_ble_eq_true rfl) (by decide) dX12_readRests_47 (fun v w hp => ?_)
          obtain ⟨cd2, rfl, rfl, h47⟩ := hp
          refine j_norm (lv' := [(5, .int (iI p)), (0, .ref n0), (1, .int (iI q)), (2, .int (iI kind)), (3, .int (iI o)), (4, .int (iI left))]) (st' := []) (ws' := [(n0, oX12 th dp my sm st sz mo ms yb hpk pkr rt rk rx hsh si gt va vn wd wa re ua pkk pxx bp mk bi pl1 cd2 rn rch rtn rdp rki rea rby rsh), (st, aI x.g 2400 B), (rea, aI x.g 800 rd), (rby, aI x.g 4 cb)]) [0, 1, 2, 3, 4, 5] [3, 0, 1, 2] rfl rfl (by decide) rfl ?_
          refine j_norm (lv' := [(0, .ref n0), (1, .int (iI q)), (2, .int (iI kind)), (3, .int (iI o)), (4, .int (iI left)), (5, .int (iI p))]) (st' := []) (ws' := [(n0, oX12 th dp my sm st sz mo ms yb hpk pkr rt rk rx hsh si gt va vn wd wa re ua pkk pxx bp mk bi pl1 cd2 rn rch rtn rdp rki rea rby rsh), (st, aI x.g 2400 B), (rea, aI x.g 800 rd), (rby, aI x.g 4 cb)]) [1, 2, 3, 4, 5, 0] [0, 1, 2, 3] rfl rfl (by decide) rfl ?_
          exact J50 cd2 ⟨cI_flt hc1 h47 (by decide) (Or.inl ⟨by decide, fun z => by have z1 := z.1; have z2 := z.2.1; have z3 := z.2.2; omega⟩), flt_in h47 h2.2.1 (by decide), fun z => absurd (flt_0 h47 (by decide) z).1 (by decide)⟩

