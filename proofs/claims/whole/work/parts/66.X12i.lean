set_option maxHeartbeats 4000000 in
set_option maxRecDepth 100000 in
theorem C_X12_open (l : Launch) (g : GG) (n0 my sm st yb pkr rt rk rx si gt va re ua mk rki rea rby : Nat) (th dp sz mo ms hpk hsh vn wd wa pkk pxx bp bi pl cd rn rch rtn rdp rsh : Int) (ap : Int) (B rd cb ki hs gg : Int → Int) (ha : inR ap) (hB : isBytes B) (hl : 0 ≤ sz ∧ sz ≤ 2400) (hcf : cfOk cb) (hrs : 0 ≤ rsh ∧ rsh ≤ 15) : Ctr l g yX12_open cX12_open 4 (some .int) 8 310 0 0 [.ref n0, .int (iI ap)] [(n0, oX12 th dp my sm st sz mo ms yb hpk pkr rt rk rx hsh si gt va vn wd wa re ua pkk pxx bp mk bi pl cd rn rch rtn rdp rki rea rby rsh), (st, aI g 2400 B), (rea, aI g 800 rd), (rby, aI g 4 cb), (rki, aI g 2 ki), (si, aI g 7 hs), (gt, aI g 800 gg)] (fun vv ww => ∃ (r cd2 pl2 rn2 rch2 rtn2 rdp2 rs2 hsh2 : Int) (rd2 cb2 ki2 hs2 gg2 : Int → Int), vv = some (.int (iI r)) ∧ ww = [(n0, oX12 0 dp my sm st sz mo ms yb hpk pkr rt rk rx hsh2 si gt va vn wd wa re ua pkk pxx bp mk bi pl2 cd2 rn2 rch2 rtn2 rdp2 rki rea rby rs2), (st, aI g 2400 B), (rea, aI g 800 rd2), (rby, aI g 4 cb2), (rki, aI g 2 ki2), (si, aI g 7 hs2), (gt, aI g 800 gg2)] ∧ cfOk cb2 ∧ (0 ≤ rs2 ∧ rs2 ≤ 15) ∧ ((¬ (0 ≤ ap ∧ ap < sz) ∧ r = -2 ∧ hsh2 = hsh ∧ hs2 = hs ∧ gg2 = gg) ∨ ((0 ≤ ap ∧ ap < sz) ∧ ¬ (frR B sz ap).1 = 0 ∧ r = -10 - (frR B sz ap).1 ∧ hsh2 = hsh ∧ hs2 = hs ∧ gg2 = gg) ∨ ((0 ≤ ap ∧ ap < sz) ∧ isF (frR B sz ap) 0 (hs2 0) (hs2 1) (hs2 2) (hs2 3) (hs2 5) (hs2 6) (hs2 4) gg2 (fun t => gg2 (400 + t)) ∧ r = hs2 0 ∧ hsh2 = 1 ∧ (1 ≤ hs2 0 ∧ hs2 0 ≤ 400) ∧ (hs2 1 = 1 ∨ hs2 1 = 2) ∧ (0 ≤ hs2 2 ∧ hs2 2 ≤ 3) ∧ (1 ≤ hs2 3 ∧ hs2 3 ≤ 16) ∧ (hs2 1 = 1 → hs2 2 = 0) ∧ fitOn gg2 (hs2 3) (hs2 0) ∧ (hs2 1 = 2 → fitOn (fun t => gg2 (400 + t)) (hs2 3) (hs2 0))))) := by
  refine Ctr.of [(0, .ref n0), (1, .int (iI ap))] (by decide) (Nat.le_of_ble_eq_true rfl) rfl ?_
  intro x hxl hxg jb jr hin
  subst hxl; subst hxg
  refine j_aload_n jb dX12_open_0 0 rfl ?_
  refine j_iconst jb dX12_open_1 ?_
  refine j_put (ws' := [(n0, oX12 0 dp my sm st sz mo ms yb hpk pkr rt rk rx hsh si gt va vn wd wa re ua pkk pxx bp mk bi pl cd rn rch rtn rdp rki rea rby rsh), (st, aI x.g 2400 B), (rea, aI x.g 800 rd), (rby, aI x.g 4 cb), (rki, aI x.g 2 ki), (si, aI x.g 7 hs), (gt, aI x.g 800 gg)]) jb f_X12_1 w_X12_0 rfl dX12_open_2 0 rfl rfl rfl (Nat.le_of_ble_eq_true rfl) rfl ?_
  refine j_iload_n jb dX12_open_5 1 rfl ?_
  refine j_i2l jb dX12_open_6 (by omega) ?_
  refine j_lconst (z := 0) jb dX12_open_7 rfl ?_
  refine j_aload_n jb dX12_open_8 0 rfl ?_
  refine j_get jb f_X12_69 dX12_open_9 0 rfl rfl ?_
  refine j_iconst jb dX12_open_12 ?_
  refine j_isub jb dX12_open_13 ?_
  refine j_i2l jb dX12_open_14 (by omega) ?_
  refine j_callS (wr := [(n0, oX12 0 dp my sm st sz mo ms yb hpk pkr rt rk rx hsh si gt va vn wd wa re ua pkk pxx bp mk bi pl cd rn rch rtn rdp rki rea rby rsh), (st, aI x.g 2400 B), (rea, aI x.g 800 rd), (rby, aI x.g 4 cb), (rki, aI x.g 2 ki), (si, aI x.g 7 hs), (gt, aI x.g 800 gg)]) jb k_X12_in t_X12_in l_X12_72 (C_X12_in x.l x.g ap 0 (sz - 1) (by omega) (by omega) (by omega)) [] [0, 1, 2, 3, 4, 5, 6] (by decide) rfl rfl (by decide) (by decide) rfl rfl (Nat.le_of_ble_eq_true rfl) (by decide) dX12_open_15 (fun v w hp => ?_)
  obtain ⟨rfl, rfl⟩ := hp
  refine j_norm (lv' := [(0, .ref n0), (1, .int (iI ap))]) (st' := [.int (iI (b2i (0 ≤ ap ∧ ap ≤ (sz - 1))))]) (ws' := [(n0, oX12 0 dp my sm st sz mo ms yb hpk pkr rt rk rx hsh si gt va vn wd wa re ua pkk pxx bp mk bi pl cd rn rch rtn rdp rki rea rby rsh), (st, aI x.g 2400 B), (rea, aI x.g 800 rd), (rby, aI x.g 4 cb), (rki, aI x.g 2 ki), (si, aI x.g 7 hs), (gt, aI x.g 800 gg)]) [0, 1] [0, 1, 2, 3, 4, 5, 6] rfl rfl (by decide) rfl ?_
  refine j_ifb_ne (tgt := 24) jb dX12_open_18 (by decide) (fun c_18 => ?_) (fun c_18 => ?_)
  · skip
    refine j_aload_n jb dX12_open_24 0 rfl ?_
    refine j_iload_n jb dX12_open_25 1 rfl ?_
    refine j_callV (wr := [(si, aI x.g 7 hs), (gt, aI x.g 800 gg)]) jb k_X12_openAt i_X12_openAt s_X12_openAt l_X12_256 (C_X12_openAt x.l x.g n0 my sm st yb pkr rt rk rx si gt va re ua mk rki rea rby 0 dp sz mo ms hpk hsh vn wd wa pkk pxx bp bi pl cd rn rch rtn rdp rsh ap B rd cb ki hB (by omega) (by omega) hcf (by omega)) 0 14 rfl rfl rfl [0, 1, 2, 3, 4] [5, 6] (by decide) rfl rfl (by decide) (by decide) rfl rfl (Nat.le_of_ble_eq_true rfl) (by decide) dX12_open_26 (fun v w hp => ?_)
    obtain ⟨cd3, pl3, rn3, rch3, rtn3, rdp3, rs3, rd3, cb3, ki3, rfl, rfl, h26⟩ := hp
    refine j_norm (lv' := [(0, .ref n0), (1, .int (iI ap))]) (st' := [.int (iI cd3)]) (ws' := [(n0, oX12 0 dp my sm st sz mo ms yb hpk pkr rt rk rx hsh si gt va vn wd wa re ua pkk pxx bp mk bi pl3 cd3 rn3 rch3 rtn3 rdp3 rki rea rby rs3), (st, aI x.g 2400 B), (rea, aI x.g 800 rd3), (rby, aI x.g 4 cb3), (rki, aI x.g 2 ki3), (si, aI x.g 7 hs), (gt, aI x.g 800 gg)]) [0, 1] [2, 3, 4, 5, 6, 0, 1] rfl rfl (by decide) rfl ?_
    refine j_istore_n (lv' := [(2, .int (iI cd3)), (0, .ref n0), (1, .int (iI ap))]) jb dX12_open_29 rfl (by decide) rfl ?_
    refine j_iload_n jb dX12_open_30 0 rfl ?_
    refine j_if_eq (tgt := 39) jb dX12_open_31 (by decide) (by omega) (fun c_31 => ?_) (fun c_31 => ?_)
    · skip
      refine j_aload_n jb dX12_open_39 1 rfl ?_
      refine j_iconst jb dX12_open_40 ?_
      refine j_put (ws' := [(n0, oX12 0 dp my sm st sz mo ms yb hpk pkr rt rk rx 1 si gt va vn wd wa re ua pkk pxx bp mk bi pl3 cd3 rn3 rch3 rtn3 rdp3 rki rea rby rs3), (st, aI x.g 2400 B), (rea, aI x.g 800 rd3), (rby, aI x.g 4 cb3), (rki, aI x.g 2 ki3), (si, aI x.g 7 hs), (gt, aI x.g 800 gg)]) jb f_X12_259 w_X12_14 rfl dX12_open_41 0 rfl rfl rfl (Nat.le_of_ble_eq_true rfl) rfl ?_
      have h26z := h26.2.2.2.2.2 c_31
      refine j_aload_n jb dX12_open_44 1 rfl ?_
      refine j_get jb f_X12_41 dX12_open_45 0 rfl rfl ?_
      refine j_iconst jb dX12_open_48 ?_
      refine j_aload_n jb dX12_open_49 1 rfl ?_
      refine j_get jb f_X12_224 dX12_open_50 0 rfl rfl ?_
      refine j_iast (ws' := [(n0, oX12 0 dp my sm st sz mo ms yb hpk pkr rt rk rx 1 si gt va vn wd wa re ua pkk pxx bp mk bi pl3 cd3 rn3 rch3 rtn3 rdp3 rki rea rby rs3), (st, aI x.g 2400 B), (rea, aI x.g 800 rd3), (rby, aI x.g 4 cb3), (rki, aI x.g 2 ki3), (si, aI x.g 7 (zup hs 0 rn3)), (gt, aI x.g 800 gg)]) jb dX12_open_53 5 rfl (by omega) (by decide) rfl ?_
      refine j_aload_n jb dX12_open_54 1 rfl ?_
      refine j_get jb f_X12_41 dX12_open_55 0 rfl rfl ?_
      refine j_iconst jb dX12_open_58 ?_
      refine j_aload_n jb dX12_open_59 1 rfl ?_
      refine j_get jb f_X12_241 dX12_open_60 0 rfl rfl ?_
      refine j_iast (ws' := [(n0, oX12 0 dp my sm st sz mo ms yb hpk pkr rt rk rx 1 si gt va vn wd wa re ua pkk pxx bp mk bi pl3 cd3 rn3 rch3 rtn3 rdp3 rki rea rby rs3), (st, aI x.g 2400 B), (rea, aI x.g 800 rd3), (rby, aI x.g 4 cb3), (rki, aI x.g 2 ki3), (si, aI x.g 7 (zup (zup hs 0 rn3) 1 rch3)), (gt, aI x.g 800 gg)]) jb dX12_open_63 5 rfl (by omega) (by decide) rfl ?_
      refine j_aload_n jb dX12_open_64 1 rfl ?_
      refine j_get jb f_X12_41 dX12_open_65 0 rfl rfl ?_
      refine j_iconst jb dX12_open_68 ?_
      refine j_aload_n jb dX12_open_69 1 rfl ?_
      refine j_get jb f_X12_244 dX12_open_70 0 rfl rfl ?_
      refine j_iast (ws' := [(n0, oX12 0 dp my sm st sz mo ms yb hpk pkr rt rk rx 1 si gt va vn wd wa re ua pkk pxx bp mk bi pl3 cd3 rn3 rch3 rtn3 rdp3 rki rea rby rs3), (st, aI x.g 2400 B), (rea, aI x.g 800 rd3), (rby, aI x.g 4 cb3), (rki, aI x.g 2 ki3), (si, aI x.g 7 (zup (zup (zup hs 0 rn3) 1 rch3) 2 rtn3)), (gt, aI x.g 800 gg)]) jb dX12_open_73 5 rfl (by omega) (by decide) rfl ?_
      refine j_aload_n jb dX12_open_74 1 rfl ?_
      refine j_get jb f_X12_41 dX12_open_75 0 rfl rfl ?_
      refine j_iconst jb dX12_open_78 ?_
      refine j_aload_n jb dX12_open_79 1 rfl ?_
      refine j_get jb f_X12_247 dX12_open_80 0 rfl rfl ?_
      refine j_iast (ws' := [(n0, oX12 0 dp my sm st sz mo ms yb hpk pkr rt rk rx 1 si gt va vn wd wa re ua pkk pxx bp mk bi pl3 cd3 rn3 rch3 rtn3 rdp3 rki rea rby rs3), (st, aI x.g 2400 B), (rea, aI x.g 800 rd3), (rby, aI x.g 4 cb3), (rki, aI x.g 2 ki3), (si, aI x.g 7 (zup (zup (zup (zup hs 0 rn3) 1 rch3) 2 rtn3) 3 rdp3)), (gt, aI x.g 800 gg)]) jb dX12_open_83 5 rfl (by omega) (by decide) rfl ?_
      refine j_aload_n jb dX12_open_84 1 rfl ?_
      refine j_get jb f_X12_41 dX12_open_85 0 rfl rfl ?_
      refine j_iconst jb dX12_open_88 ?_
      refine j_aload_n jb dX12_open_89 1 rfl ?_
      refine j_get jb f_X12_205 dX12_open_90 0 rfl rfl ?_
      refine j_bipush jb dX12_open_93 (by decide) ?_
      refine j_idiv jb dX12_open_95 (by omega) ?_
      refine j_iast (ws' := [(n0, oX12 0 dp my sm st sz mo ms yb hpk pkr rt rk rx 1 si gt va vn wd wa re ua pkk pxx bp mk bi pl3 cd3 rn3 rch3 rtn3 rdp3 rki rea rby rs3), (st, aI x.g 2400 B), (rea, aI x.g 800 rd3), (rby, aI x.g 4 cb3), (rki, aI x.g 2 ki3), (si, aI x.g 7 (zup (zup (zup (zup (zup hs 0 rn3) 1 rch3) 2 rtn3) 3 rdp3) 4 (pl3 / 8))), (gt, aI x.g 800 gg)]) jb dX12_open_96 5 rfl (by omega) (by decide) rfl ?_
      refine j_aload_n jb dX12_open_97 1 rfl ?_
      refine j_get jb f_X12_41 dX12_open_98 0 rfl rfl ?_
      refine j_iconst jb dX12_open_101 ?_
      refine j_aload_n jb dX12_open_102 1 rfl ?_
      refine j_get jb f_X12_60 dX12_open_103 0 rfl rfl ?_
      refine j_iconst jb dX12_open_106 ?_
      refine j_iald jb dX12_open_107 4 rfl (by omega) (by decide) ?_
      refine j_iast (ws' := [(n0, oX12 0 dp my sm st sz mo ms yb hpk pkr rt rk rx 1 si gt va vn wd wa re ua pkk pxx bp mk bi pl3 cd3 rn3 rch3 rtn3 rdp3 rki rea rby rs3), (st, aI x.g 2400 B), (rea, aI x.g 800 rd3), (rby, aI x.g 4 cb3), (rki, aI x.g 2 ki3), (si, aI x.g 7 (zup (zup (zup (zup (zup (zup hs 0 rn3) 1 rch3) 2 rtn3) 3 rdp3) 4 (pl3 / 8)) 5 (ki3 0))), (gt, aI x.g 800 gg)]) jb dX12_open_108 5 rfl (by omega) (by decide) rfl ?_
      refine j_aload_n jb dX12_open_109 1 rfl ?_
      refine j_get jb f_X12_41 dX12_open_110 0 rfl rfl ?_
      refine j_bipush jb dX12_open_113 (by decide) ?_
      refine j_aload_n jb dX12_open_115 1 rfl ?_
      refine j_get jb f_X12_241 dX12_open_116 0 rfl rfl ?_
      refine j_iconst jb dX12_open_119 ?_
      have J133 : ∀ (k6v : Int), k6v = (if rch3 = 2 then ki3 1 else -1) → JW x 0 0 133 [(0, .ref n0), (1, .int (iI ap)), (2, .int (iI cd3))] [.int (iI k6v), .int (iI 6), .ref si] [(n0, oX12 0 dp my sm st sz mo ms yb hpk pkr rt rk rx 1 si gt va vn wd wa re ua pkk pxx bp mk bi pl3 cd3 rn3 rch3 rtn3 rdp3 rki rea rby rs3), (st, aI x.g 2400 B), (rea, aI x.g 800 rd3), (rby, aI x.g 4 cb3), (rki, aI x.g 2 ki3), (si, aI x.g 7 (zup (zup (zup (zup (zup (zup hs 0 rn3) 1 rch3) 2 rtn3) 3 rdp3) 4 (pl3 / 8)) 5 (ki3 0))), (gt, aI x.g 800 gg)] := by
        intro k6v hk6
        refine j_iast (ws' := [(n0, oX12 0 dp my sm st sz mo ms yb hpk pkr rt rk rx 1 si gt va vn wd wa re ua pkk pxx bp mk bi pl3 cd3 rn3 rch3 rtn3 rdp3 rki rea rby rs3), (st, aI x.g 2400 B), (rea, aI x.g 800 rd3), (rby, aI x.g 4 cb3), (rki, aI x.g 2 ki3), (si, aI x.g 7 (zup (zup (zup (zup (zup (zup (zup hs 0 rn3) 1 rch3) 2 rtn3) 3 rdp3) 4 (pl3 / 8)) 5 (ki3 0)) 6 k6v)), (gt, aI x.g 800 gg)]) jb dX12_open_133 5 rfl (by omega) (by decide) rfl ?_
        refine j_iconst jb dX12_open_134 ?_
        refine j_istore_n (lv' := [(3, .int (iI 0)), (0, .ref n0), (1, .int (iI ap)), (2, .int (iI cd3))]) jb dX12_open_135 rfl (by decide) rfl ?_
        have L136 : ∀ (fu : Nat) (i : Int) (g1 : Int → Int), (0 ≤ i ∧ i ≤ 800 ∧ ∀ j, 0 ≤ j → j < i → g1 j = rd3 j) → (800 - i).toNat < fu → JW x 0 0 136 [(0, .ref n0), (1, .int (iI ap)), (2, .int (iI cd3)), (3, .int (iI i))] [] [(n0, oX12 0 dp my sm st sz mo ms yb hpk pkr rt rk rx 1 si gt va vn wd wa re ua pkk pxx bp mk bi pl3 cd3 rn3 rch3 rtn3 rdp3 rki rea rby rs3), (st, aI x.g 2400 B), (rea, aI x.g 800 rd3), (rby, aI x.g 4 cb3), (rki, aI x.g 2 ki3), (si, aI x.g 7 (zup (zup (zup (zup (zup (zup (zup hs 0 rn3) 1 rch3) 2 rtn3) 3 rdp3) 4 (pl3 / 8)) 5 (ki3 0)) 6 k6v)), (gt, aI x.g 800 g1)] := by
          intro fu
          induction fu with
          | zero => intro i g1 _ hm; exact absurd hm (by omega)
          | succ fu ih =>
            intro i g1 ⟨hi1, hi2, hi3⟩ hm136
            have ih136 := ih
            clear ih
            refine j_iload_n jb dX12_open_136 3 rfl ?_
            refine j_sipush jb dX12_open_137 (by decide) ?_
            refine j_icmp_ge (tgt := 161) jb dX12_open_140 (by decide) (by omega) (by omega) (fun c_140 => ?_) (fun c_140 => ?_)
            · skip
              refine j_aload_n jb dX12_open_161 0 rfl ?_
              refine j_get jb f_X12_224 dX12_open_162 0 rfl rfl ?_
              refine j_norm (lv' := []) (st' := [.int (iI rn3)]) (ws' := [(n0, oX12 0 dp my sm st sz mo ms yb hpk pkr rt rk rx 1 si gt va vn wd wa re ua pkk pxx bp mk bi pl3 cd3 rn3 rch3 rtn3 rdp3 rki rea rby rs3), (st, aI x.g 2400 B), (rea, aI x.g 800 rd3), (rby, aI x.g 4 cb3), (rki, aI x.g 2 ki3), (si, aI x.g 7 (zup (zup (zup (zup (zup (zup (zup hs 0 rn3) 1 rch3) 2 rtn3) 3 rdp3) 4 (pl3 / 8)) 5 (ki3 0)) 6 k6v)), (gt, aI x.g 800 g1)]) [] [0, 1, 2, 3, 4, 5, 6] rfl rfl (by decide) rfl ?_
              exact j_iret jb jr dX12_open_165 ⟨_, _, _, _, _, _, _, _, _, _, _, _, _, _, rfl, rfl, (by have e0 : (zup (zup (zup (zup (zup (zup (zup hs 0 rn3) 1 rch3) 2 rtn3) 3 rdp3) 4 (pl3 / 8)) 5 (ki3 0)) 6 k6v) 0 = rn3 := (by rw [zup_n (by decide), zup_n (by decide), zup_n (by decide), zup_n (by decide), zup_n (by decide), zup_n (by decide), zup_s]); have e1 : (zup (zup (zup (zup (zup (zup (zup hs 0 rn3) 1 rch3) 2 rtn3) 3 rdp3) 4 (pl3 / 8)) 5 (ki3 0)) 6 k6v) 1 = rch3 := (by rw [zup_n (by decide), zup_n (by decide), zup_n (by decide), zup_n (by decide), zup_n (by decide), zup_s]); have e2 : (zup (zup (zup (zup (zup (zup (zup hs 0 rn3) 1 rch3) 2 rtn3) 3 rdp3) 4 (pl3 / 8)) 5 (ki3 0)) 6 k6v) 2 = rtn3 := (by rw [zup_n (by decide), zup_n (by decide), zup_n (by decide), zup_n (by decide), zup_s]); have e3 : (zup (zup (zup (zup (zup (zup (zup hs 0 rn3) 1 rch3) 2 rtn3) 3 rdp3) 4 (pl3 / 8)) 5 (ki3 0)) 6 k6v) 3 = rdp3 := (by rw [zup_n (by decide), zup_n (by decide), zup_n (by decide), zup_s]); have e4 : (zup (zup (zup (zup (zup (zup (zup hs 0 rn3) 1 rch3) 2 rtn3) 3 rdp3) 4 (pl3 / 8)) 5 (ki3 0)) 6 k6v) 4 = pl3 / 8 := (by rw [zup_n (by decide), zup_n (by decide), zup_s]); have e5 : (zup (zup (zup (zup (zup (zup (zup hs 0 rn3) 1 rch3) 2 rtn3) 3 rdp3) 4 (pl3 / 8)) 5 (ki3 0)) 6 k6v) 5 = ki3 0 := (by rw [zup_n (by decide), zup_s]); have e6 : (zup (zup (zup (zup (zup (zup (zup hs 0 rn3) 1 rch3) 2 rtn3) 3 rdp3) 4 (pl3 / 8)) 5 (ki3 0)) 6 k6v) 6 = k6v := (by rw [zup_s]); have hg : ∀ j, 0 ≤ j → j < 800 → g1 j = rd3 j := (fun j a b => hi3 j a (by omega)); have hF := h26.1; rw [c_31, ← hk6] at hF; refine ⟨h26.2.2.2.1, h26.2.2.2.2.1, Or.inr (Or.inr ?_)⟩; rw [e0, e1, e2, e3, e4, e5, e6]; exact ⟨by omega, isF_copy hF (fun _ => ⟨fun j a b => hg j a (by omega), fun _ j a b => hg (400 + j) (by omega) (by omega)⟩), rfl, rfl, h26z.1, h26z.2.1, h26z.2.2.1, h26z.2.2.2.1, h26z.2.2.2.2.1, fun j a b => by rw [hg j a (by omega)]; exact h26z.2.2.2.2.2.2.1 j a b, fun q j a b => (by show fit (g1 (400 + j)) rdp3; rw [hg (400 + j) (by omega) (by omega)]; exact h26z.2.2.2.2.2.2.2 q j a b)⟩)⟩
            · skip
              refine j_aload_n jb dX12_open_143 0 rfl ?_
              refine j_get jb f_X12_44 dX12_open_144 0 rfl rfl ?_
              refine j_iload_n jb dX12_open_147 3 rfl ?_
              refine j_aload_n jb dX12_open_148 0 rfl ?_
              refine j_get jb f_X12_63 dX12_open_149 0 rfl rfl ?_
              refine j_iload_n jb dX12_open_152 3 rfl ?_
              refine j_iald jb dX12_open_153 2 rfl (by omega) (by decide) ?_
              refine j_iast (ws' := [(n0, oX12 0 dp my sm st sz mo ms yb hpk pkr rt rk rx 1 si gt va vn wd wa re ua pkk pxx bp mk bi pl3 cd3 rn3 rch3 rtn3 rdp3 rki rea rby rs3), (st, aI x.g 2400 B), (rea, aI x.g 800 rd3), (rby, aI x.g 4 cb3), (rki, aI x.g 2 ki3), (si, aI x.g 7 (zup (zup (zup (zup (zup (zup (zup hs 0 rn3) 1 rch3) 2 rtn3) 3 rdp3) 4 (pl3 / 8)) 5 (ki3 0)) 6 k6v)), (gt, aI x.g 800 (zup g1 i (rd3 i)))]) jb dX12_open_154 6 rfl (by omega) (by decide) rfl ?_
              refine j_iinc (lv' := [(3, .int (iI (i + 1))), (0, .ref n0), (1, .int (iI ap)), (2, .int (iI cd3))]) jb dX12_open_155 3 rfl (by decide) rfl ?_
              refine j_goto (tgt := 136) jb dX12_open_158 (by decide) ?_
              refine j_norm (lv' := [(0, .ref n0), (1, .int (iI ap)), (2, .int (iI cd3)), (3, .int (iI (i + 1)))]) (st' := []) (ws' := [(n0, oX12 0 dp my sm st sz mo ms yb hpk pkr rt rk rx 1 si gt va vn wd wa re ua pkk pxx bp mk bi pl3 cd3 rn3 rch3 rtn3 rdp3 rki rea rby rs3), (st, aI x.g 2400 B), (rea, aI x.g 800 rd3), (rby, aI x.g 4 cb3), (rki, aI x.g 2 ki3), (si, aI x.g 7 (zup (zup (zup (zup (zup (zup (zup hs 0 rn3) 1 rch3) 2 rtn3) 3 rdp3) 4 (pl3 / 8)) 5 (ki3 0)) 6 k6v)), (gt, aI x.g 800 (zup g1 i (rd3 i)))]) [1, 2, 3, 0] [0, 1, 2, 3, 4, 5, 6] rfl rfl (by decide) rfl ?_
              exact ih136 (i + 1) (zup g1 i (rd3 i)) ⟨by omega, by omega, fun j a b => by (by_cases e : j = i); { rw [e, zup_s] }; { rw [zup_n e]; exact hi3 j a (by omega) }⟩ (by omega)
        refine j_norm (lv' := [(0, .ref n0), (1, .int (iI ap)), (2, .int (iI cd3)), (3, .int (iI 0))]) (st' := []) (ws' := [(n0, oX12 0 dp my sm st sz mo ms yb hpk pkr rt rk rx 1 si gt va vn wd wa re ua pkk pxx bp mk bi pl3 cd3 rn3 rch3 rtn3 rdp3 rki rea rby rs3), (st, aI x.g 2400 B), (rea, aI x.g 800 rd3), (rby, aI x.g 4 cb3), (rki, aI x.g 2 ki3), (si, aI x.g 7 (zup (zup (zup (zup (zup (zup (zup hs 0 rn3) 1 rch3) 2 rtn3) 3 rdp3) 4 (pl3 / 8)) 5 (ki3 0)) 6 k6v)), (gt, aI x.g 800 gg)]) [1, 2, 3, 0] [0, 1, 2, 3, 4, 5, 6] rfl rfl (by decide) rfl ?_
        exact L136 _ 0 gg ⟨by decide, by decide, fun j a b => by omega⟩ (Nat.lt_succ_self _)
      refine j_icmp_ne (tgt := 132) jb dX12_open_120 (by decide) (by omega) (by omega) (fun c_120 => ?_) (fun c_120 => ?_)
      · skip
        refine j_iconst jb dX12_open_132 ?_
        refine j_norm (lv' := [(0, .ref n0), (1, .int (iI ap)), (2, .int (iI cd3))]) (st' := [.int (iI (-1)), .int (iI 6), .ref si]) (ws' := [(n0, oX12 0 dp my sm st sz mo ms yb hpk pkr rt rk rx 1 si gt va vn wd wa re ua pkk pxx bp mk bi pl3 cd3 rn3 rch3 rtn3 rdp3 rki rea rby rs3), (st, aI x.g 2400 B), (rea, aI x.g 800 rd3), (rby, aI x.g 4 cb3), (rki, aI x.g 2 ki3), (si, aI x.g 7 (zup (zup (zup (zup (zup (zup hs 0 rn3) 1 rch3) 2 rtn3) 3 rdp3) 4 (pl3 / 8)) 5 (ki3 0))), (gt, aI x.g 800 gg)]) [1, 2, 0] [0, 1, 2, 3, 4, 5, 6] rfl rfl (by decide) rfl ?_
        exact J133 (-1) (by first | (rw [if_neg c_120]; done) | (rw [if_pos c_120]; done))
      · skip
        refine j_aload_n jb dX12_open_123 1 rfl ?_
        refine j_get jb f_X12_60 dX12_open_124 0 rfl rfl ?_
        refine j_iconst jb dX12_open_127 ?_
        refine j_iald jb dX12_open_128 4 rfl (by omega) (by decide) ?_
        refine j_goto (tgt := 133) jb dX12_open_129 (by decide) ?_
        refine j_norm (lv' := [(0, .ref n0), (1, .int (iI ap)), (2, .int (iI cd3))]) (st' := [.int (iI (ki3 1)), .int (iI 6), .ref si]) (ws' := [(n0, oX12 0 dp my sm st sz mo ms yb hpk pkr rt rk rx 1 si gt va vn wd wa re ua pkk pxx bp mk bi pl3 cd3 rn3 rch3 rtn3 rdp3 rki rea rby rs3), (st, aI x.g 2400 B), (rea, aI x.g 800 rd3), (rby, aI x.g 4 cb3), (rki, aI x.g 2 ki3), (si, aI x.g 7 (zup (zup (zup (zup (zup (zup hs 0 rn3) 1 rch3) 2 rtn3) 3 rdp3) 4 (pl3 / 8)) 5 (ki3 0))), (gt, aI x.g 800 gg)]) [1, 2, 0] [0, 1, 2, 3, 4, 5, 6] rfl rfl (by decide) rfl ?_
        exact J133 (ki3 1) (by first | (rw [if_neg c_120]; done) | (rw [if_pos c_120]; done))
    · skip
      refine j_bipush jb dX12_open_34 (by decide) ?_
      refine j_iload_n jb dX12_open_36 0 rfl ?_
      refine j_isub jb dX12_open_37 ?_
      refine j_norm (lv' := []) (st' := [.int (iI ((-10) - cd3))]) (ws' := [(n0, oX12 0 dp my sm st sz mo ms yb hpk pkr rt rk rx hsh si gt va vn wd wa re ua pkk pxx bp mk bi pl3 cd3 rn3 rch3 rtn3 rdp3 rki rea rby rs3), (st, aI x.g 2400 B), (rea, aI x.g 800 rd3), (rby, aI x.g 4 cb3), (rki, aI x.g 2 ki3), (si, aI x.g 7 hs), (gt, aI x.g 800 gg)]) [] [0, 1, 2, 3, 4, 5, 6] rfl rfl (by decide) rfl ?_
      exact j_iret jb jr dX12_open_38 ⟨_, _, _, _, _, _, _, _, _, _, _, _, _, _, rfl, rfl, ⟨h26.2.2.2.1, h26.2.2.2.2.1, Or.inr (Or.inl ⟨by omega, by rw [← h26.1.1]; exact c_31, by rw [← h26.1.1], rfl, rfl, rfl⟩)⟩⟩
  · skip
    refine j_bipush jb dX12_open_21 (by decide) ?_
    refine j_norm (lv' := []) (st' := [.int (iI (-2))]) (ws' := [(n0, oX12 0 dp my sm st sz mo ms yb hpk pkr rt rk rx hsh si gt va vn wd wa re ua pkk pxx bp mk bi pl cd rn rch rtn rdp rki rea rby rsh), (st, aI x.g 2400 B), (rea, aI x.g 800 rd), (rby, aI x.g 4 cb), (rki, aI x.g 2 ki), (si, aI x.g 7 hs), (gt, aI x.g 800 gg)]) [] [0, 1, 2, 3, 4, 5, 6] rfl rfl (by decide) rfl ?_
    exact j_iret jb jr dX12_open_23 ⟨_, _, _, _, _, _, _, _, _, _, _, _, _, _, rfl, rfl, ⟨hcf, hrs, Or.inl ⟨by omega, rfl, rfl, rfl, rfl⟩⟩⟩

set_option maxHeartbeats 4000000 in
set_option maxRecDepth 100000 in
theorem C_X12_frames (l : Launch) (g : GG) (n0 my sm st yb pkr rt rk rx si gt va re ua mk rki rea rby : Nat) (th dp sz mo ms hpk hsh vn wd wa pkk pxx bp bi pl cd rn rch rtn rdp rsh : Int) (B rd cb ki : Int → Int) (hB : isBytes B) (hl : 0 ≤ sz ∧ sz ≤ 2400) (hcf : cfOk cb) (hrs : 0 ≤ rsh ∧ rsh ≤ 15) : Ctr l g yX12_frames cX12_frames 3 (some .int) 8 310 0 0 [.ref n0] [(n0, oX12 th dp my sm st sz mo ms yb hpk pkr rt rk rx hsh si gt va vn wd wa re ua pkk pxx bp mk bi pl cd rn rch rtn rdp rki rea rby rsh), (st, aI g 2400 B), (rea, aI g 800 rd), (rby, aI g 4 cb), (rki, aI g 2 ki)] (fun vv ww => ∃ (r cd2 pl2 rn2 rch2 rtn2 rdp2 rs2 : Int) (rd2 cb2 ki2 : Int → Int), vv = some (.int (iI r)) ∧ ww = [(n0, oX12 0 dp my sm st sz mo ms yb hpk pkr rt rk rx hsh si gt va vn wd wa re ua pkk pxx bp mk bi pl2 cd2 rn2 rch2 rtn2 rdp2 rki rea rby rs2), (st, aI g 2400 B), (rea, aI g 800 rd2), (rby, aI g 4 cb2), (rki, aI g 2 ki2)] ∧ cfOk cb2 ∧ (0 ≤ rs2 ∧ rs2 ≤ 15) ∧ r = frN B sz 2400 0 0) := by
  refine Ctr.of [(0, .ref n0)] (by decide) (Nat.le_of_ble_eq_true rfl) rfl ?_
  intro x hxl hxg jb jr hin
  subst hxl; subst hxg
  obtain ⟨R0, hR0⟩ : ∃ R : Int, R = frN B sz 2400 0 0 := ⟨_, rfl⟩
  refine j_aload_n jb dX12_frames_0 0 rfl ?_
  refine j_iconst jb dX12_frames_1 ?_
  refine j_put (ws' := [(n0, oX12 0 dp my sm st sz mo ms yb hpk pkr rt rk rx hsh si gt va vn wd wa re ua pkk pxx bp mk bi pl cd rn rch rtn rdp rki rea rby rsh), (st, aI x.g 2400 B), (rea, aI x.g 800 rd), (rby, aI x.g 4 cb), (rki, aI x.g 2 ki)]) jb f_X12_1 w_X12_0 rfl dX12_frames_2 0 rfl rfl rfl (Nat.le_of_ble_eq_true rfl) rfl ?_
  refine j_iconst jb dX12_frames_5 ?_
  refine j_istore_n (lv' := [(1, .int (iI 0)), (0, .ref n0)]) jb dX12_frames_6 rfl (by decide) rfl ?_
  refine j_iconst jb dX12_frames_7 ?_
  refine j_istore_n (lv' := [(2, .int (iI 0)), (1, .int (iI 0)), (0, .ref n0)]) jb dX12_frames_8 rfl (by decide) rfl ?_
  have L9 : ∀ (fu : Nat) (gd pl9 cdq plq rnq rchq rtnq rdpq rsq : Int) (rdq cbq kiq : Int → Int), ((0 ≤ pl9 ∧ pl9 ≤ sz) ∧ (0 ≤ gd ∧ gd ≤ pl9) ∧ cfOk cbq ∧ (0 ≤ rsq ∧ rsq ≤ 15) ∧ R0 = frN B sz (2400 - gd).toNat pl9 gd) → (sz - pl9).toNat < fu → JW x 0 0 9 [(0, .ref n0), (1, .int (iI gd)), (2, .int (iI pl9))] [] [(n0, oX12 0 dp my sm st sz mo ms yb hpk pkr rt rk rx hsh si gt va vn wd wa re ua pkk pxx bp mk bi plq cdq rnq rchq rtnq rdpq rki rea rby rsq), (st, aI x.g 2400 B), (rea, aI x.g 800 rdq), (rby, aI x.g 4 cbq), (rki, aI x.g 2 kiq)] := by
    intro fu
    induction fu with
    | zero => intro gd pl9 cdq plq rnq rchq rtnq rdpq rsq rdq cbq kiq _ hm; exact absurd hm (by omega)
    | succ fu ih =>
      intro gd pl9 cdq plq rnq rchq rtnq rdpq rsq rdq cbq kiq ⟨hi1, hi2, hi3, hi4, hi5⟩ hm9
      have ih9 := ih
      clear ih
      refine j_iload_n jb dX12_frames_9 2 rfl ?_
      refine j_aload_n jb dX12_frames_10 0 rfl ?_
      refine j_get jb f_X12_69 dX12_frames_11 0 rfl rfl ?_
      refine j_icmp_ge (tgt := 44) jb dX12_frames_14 (by decide) (by omega) (by omega) (fun c_14 => ?_) (fun c_14 => ?_)
      · skip
        refine j_iload_n jb dX12_frames_44 1 rfl ?_
        refine j_norm (lv' := []) (st' := [.int (iI gd)]) (ws' := [(n0, oX12 0 dp my sm st sz mo ms yb hpk pkr rt rk rx hsh si gt va vn wd wa re ua pkk pxx bp mk bi plq cdq rnq rchq rtnq rdpq rki rea rby rsq), (st, aI x.g 2400 B), (rea, aI x.g 800 rdq), (rby, aI x.g 4 cbq), (rki, aI x.g 2 kiq)]) [] [0, 1, 2, 3, 4] rfl rfl (by decide) rfl ?_
        exact j_iret jb jr dX12_frames_45 ⟨_, _, _, _, _, _, _, _, _, _, _, rfl, rfl, ⟨hi3, hi4, by rw [← hR0]; exact (frN_end hi5 (by omega)).symm⟩⟩
      · skip
        refine j_aload_n jb dX12_frames_17 0 rfl ?_
        refine j_iload_n jb dX12_frames_18 2 rfl ?_
        refine j_callV (wr := []) jb k_X12_openAt i_X12_openAt s_X12_openAt l_X12_256 (C_X12_openAt x.l x.g n0 my sm st yb pkr rt rk rx si gt va re ua mk rki rea rby 0 dp sz mo ms hpk hsh vn wd wa pkk pxx bp bi plq cdq rnq rchq rtnq rdpq rsq pl9 B rdq cbq kiq hB (by omega) (by omega) hi3 hi4) 0 14 rfl rfl rfl [0, 1, 2, 3, 4] [] (by decide) rfl rfl (by decide) (by decide) rfl rfl (Nat.le_of_ble_eq_true rfl) (by decide) dX12_frames_19 (fun v w hp => ?_)
        obtain ⟨cd3, pl3, rn3, rch3, rtn3, rdp3, rs3, rd3, cb3, ki3, rfl, rfl, h19⟩ := hp
        refine j_norm (lv' := [(0, .ref n0), (1, .int (iI gd)), (2, .int (iI pl9))]) (st' := [.int (iI cd3)]) (ws' := [(n0, oX12 0 dp my sm st sz mo ms yb hpk pkr rt rk rx hsh si gt va vn wd wa re ua pkk pxx bp mk bi pl3 cd3 rn3 rch3 rtn3 rdp3 rki rea rby rs3), (st, aI x.g 2400 B), (rea, aI x.g 800 rd3), (rby, aI x.g 4 cb3), (rki, aI x.g 2 ki3)]) [0, 1, 2] [0, 1, 2, 3, 4] rfl rfl (by decide) rfl ?_
        refine j_if_eq (tgt := 30) jb dX12_frames_22 (by decide) (by omega) (fun c_22 => ?_) (fun c_22 => ?_)
        · skip
          have hz9 := (h19.2.2.2.2.2 c_22).2.2.2.2.2.1
          refine j_aload_n jb dX12_frames_30 0 rfl ?_
          refine j_get jb f_X12_205 dX12_frames_31 0 rfl rfl ?_
          refine j_bipush jb dX12_frames_34 (by decide) ?_
          refine j_idiv jb dX12_frames_36 (by omega) ?_
          refine j_istore_n (lv' := [(2, .int (iI (pl3 / 8))), (0, .ref n0), (1, .int (iI gd))]) jb dX12_frames_37 rfl (by decide) rfl ?_
          refine j_iinc (lv' := [(1, .int (iI (gd + 1))), (2, .int (iI (pl3 / 8))), (0, .ref n0)]) jb dX12_frames_38 2 rfl (by decide) rfl ?_
          refine j_goto (tgt := 9) jb dX12_frames_41 (by decide) ?_
          refine j_norm (lv' := [(0, .ref n0), (1, .int (iI (gd + 1))), (2, .int (iI (pl3 / 8)))]) (st' := []) (ws' := [(n0, oX12 0 dp my sm st sz mo ms yb hpk pkr rt rk rx hsh si gt va vn wd wa re ua pkk pxx bp mk bi pl3 cd3 rn3 rch3 rtn3 rdp3 rki rea rby rs3), (st, aI x.g 2400 B), (rea, aI x.g 800 rd3), (rby, aI x.g 4 cb3), (rki, aI x.g 2 ki3)]) [2, 0, 1] [0, 1, 2, 3, 4] rfl rfl (by decide) rfl ?_
          exact ih9 (gd + 1) (pl3 / 8) cd3 pl3 rn3 rch3 rtn3 rdp3 rs3 rd3 cb3 ki3 (by exact ⟨by omega, by omega, h19.2.2.2.1, h19.2.2.2.2.1, frN_next hi5 (by omega) (by omega) (by rw [← h19.1.1]; exact c_22) (h19.1.2 c_22).2.2.2.2.2.2.1⟩) (by omega)
        · skip
          refine j_bipush jb dX12_frames_25 (by decide) ?_
          refine j_iload_n jb dX12_frames_27 1 rfl ?_
          refine j_isub jb dX12_frames_28 ?_
          refine j_norm (lv' := []) (st' := [.int (iI ((-10) - gd))]) (ws' := [(n0, oX12 0 dp my sm st sz mo ms yb hpk pkr rt rk rx hsh si gt va vn wd wa re ua pkk pxx bp mk bi pl3 cd3 rn3 rch3 rtn3 rdp3 rki rea rby rs3), (st, aI x.g 2400 B), (rea, aI x.g 800 rd3), (rby, aI x.g 4 cb3), (rki, aI x.g 2 ki3)]) [] [0, 1, 2, 3, 4] rfl rfl (by decide) rfl ?_
          exact j_iret jb jr dX12_frames_29 ⟨_, _, _, _, _, _, _, _, _, _, _, rfl, rfl, ⟨h19.2.2.2.1, h19.2.2.2.2.1, by rw [← hR0]; exact (frN_bad hi5 (by omega) (by omega) (by rw [← h19.1.1]; exact c_22)).symm⟩⟩
  refine j_norm (lv' := [(0, .ref n0), (1, .int (iI 0)), (2, .int (iI 0))]) (st' := []) (ws' := [(n0, oX12 0 dp my sm st sz mo ms yb hpk pkr rt rk rx hsh si gt va vn wd wa re ua pkk pxx bp mk bi pl cd rn rch rtn rdp rki rea rby rsh), (st, aI x.g 2400 B), (rea, aI x.g 800 rd), (rby, aI x.g 4 cb), (rki, aI x.g 2 ki)]) [2, 1, 0] [0, 1, 2, 3, 4] rfl rfl (by decide) rfl ?_
  exact L9 _ 0 0 cd pl rn rch rtn rdp rsh rd cb ki ⟨by omega, by decide, hcf, hrs, hR0⟩ (Nat.lt_succ_self _)

