set_option maxHeartbeats 4000000 in
set_option maxRecDepth 100000 in
theorem C_X12_readRow (l : Launch) (g : GG) (n0 my sm st yb pkr rt rk rx si gt va re ua mk rki rea rby : Nat) (th dp sz mo ms hpk hsh vn wd wa pkk pxx bp bi pl cd rn rch rtn rdp rsh : Int) (q rb : Int) (B rd cb ki : Int → Int) (hcd0 : cd = 0) (hq : 0 ≤ q ∧ q ≤ 1) (hn : 1 ≤ rn ∧ rn ≤ 400) (hrb : 1 ≤ rb ∧ rb ≤ 17) (hcf : cfOk cb) (hrs : 0 ≤ rsh ∧ rsh ≤ 15) (hB : isBytes B) (hl : 0 ≤ sz ∧ sz ≤ 2400) (hcd : 0 ≤ cd ∧ cd ≤ 20) (hp : 0 ≤ pl ∧ pl ≤ 8 * sz) : Ctr l g yX12_readRow cX12_readRow 8 none 6 220 0 0 [.ref n0, .int (iI q), .int (iI rb)] [(n0, oX12 th dp my sm st sz mo ms yb hpk pkr rt rk rx hsh si gt va vn wd wa re ua pkk pxx bp mk bi pl cd rn rch rtn rdp rki rea rby rsh), (st, aI g 2400 B), (rea, aI g 800 rd), (rby, aI g 4 cb), (rki, aI g 2 ki)] (fun vv ww => ∃ (cd2 pl2 rs2 kd2 : Int) (rd2 cb2 : Int → Int), vv = none ∧ ww = [(n0, oX12 th dp my sm st sz mo ms yb hpk pkr rt rk rx hsh si gt va vn wd wa re ua pkk pxx bp mk bi pl2 cd2 rn rch rtn rdp rki rea rby rs2), (st, aI g 2400 B), (rea, aI g 800 rd2), (rby, aI g 4 cb2), (rki, aI g 2 (zup ki q kd2))] ∧ isRn rn (rowR B sz rn rb z0 pl z0) cd2 pl2 (fun t => rd2 (400 * q + t)) ∧ (0 ≤ cd2 ∧ cd2 ≤ 20) ∧ (0 ≤ pl2 ∧ pl2 ≤ 8 * sz) ∧ cfOk cb2 ∧ (0 ≤ rs2 ∧ rs2 ≤ 15) ∧ (0 ≤ kd2 ∧ kd2 ≤ 7) ∧ (cd2 = 0 → fitOn (fun t => rd2 (400 * q + t)) rb rn ∧ kd2 = num B pl 3) ∧ (∀ j, (j < 400 * q ∨ 400 * q + 400 ≤ j) → rd2 j = rd j)) := by
  refine Ctr.of [(0, .ref n0), (1, .int (iI q)), (2, .int (iI rb))] (by decide) (Nat.le_of_ble_eq_true rfl) rfl ?_
  intro x hxl hxg jb jr hin
  subst hxl; subst hxg
  obtain ⟨R0, hR0⟩ : ∃ R : RR, R = (rowR B sz rn rb z0 pl z0) := ⟨_, rfl⟩
  have hc0 : contI R0 cd (rowR B sz rn rb z0 pl z0) := cI_0 hcd0 hR0
  refine j_aload_n jb dX12_readRow_0 0 rfl ?_
  refine j_iconst jb dX12_readRow_1 ?_
  refine j_callV (wr := [(rea, aI x.g 800 rd), (rby, aI x.g 4 cb), (rki, aI x.g 2 ki)]) jb k_X12_number i_X12_number s_X12_number l_X12_214 (C_X12_number x.l x.g n0 my sm st yb pkr rt rk rx si gt va re ua mk rki rea rby th dp sz mo ms hpk hsh vn wd wa pkk pxx bp bi pl cd rn rch rtn rdp rsh 3 B (by decide) hB (by omega) (by omega) (by omega)) 0 14 rfl rfl rfl [0, 1] [2, 3, 4] (by decide) rfl rfl (by decide) (by decide) rfl rfl (Nat.le_of_ble_eq_true rfl) (by decide) dX12_readRow_2 (fun v w hp => ?_)
  obtain ⟨kd, cd1, pl1, rfl, rfl, h2⟩ := hp
  refine j_norm (lv' := [(0, .ref n0), (1, .int (iI q)), (2, .int (iI rb))]) (st' := [.long (lI kd)]) (ws' := [(n0, oX12 th dp my sm st sz mo ms yb hpk pkr rt rk rx hsh si gt va vn wd wa re ua pkk pxx bp mk bi pl1 cd1 rn rch rtn rdp rki rea rby rsh), (st, aI x.g 2400 B), (rea, aI x.g 800 rd), (rby, aI x.g 4 cb), (rki, aI x.g 2 ki)]) [0, 1, 2] [3, 4, 0, 1, 2] rfl rfl (by decide) rfl ?_
  have hkd : 0 ≤ kd ∧ kd < 8 := h2.1.2.2.2.1
  have hc1 := cM_get (f := fun kind p => getR B sz 4 p (fun w p2 => fltR (rb ≤ w) 4 (shlR w (bodyR B sz rn (rb - w) kind z0 p2 z0)))) hc0 h2.1
  refine j_l2i jb dX12_readRow_5 ?_
  refine j_istore_n (lv' := [(3, .int (iI kd)), (0, .ref n0), (1, .int (iI q)), (2, .int (iI rb))]) jb dX12_readRow_6 rfl (by decide) rfl ?_
  refine j_aload_n jb dX12_readRow_7 1 rfl ?_
  refine j_get jb f_X12_60 dX12_readRow_8 0 rfl rfl ?_
  refine j_iload_n jb dX12_readRow_11 2 rfl ?_
  refine j_iload_n jb dX12_readRow_12 0 rfl ?_
  refine j_iast (ws' := [(n0, oX12 th dp my sm st sz mo ms yb hpk pkr rt rk rx hsh si gt va vn wd wa re ua pkk pxx bp mk bi pl1 cd1 rn rch rtn rdp rki rea rby rsh), (st, aI x.g 2400 B), (rea, aI x.g 800 rd), (rby, aI x.g 4 cb), (rki, aI x.g 2 (zup ki q kd))]) jb dX12_readRow_13 4 rfl (by omega) (by decide) rfl ?_
  refine j_aload_n jb dX12_readRow_14 1 rfl ?_
  refine j_iconst jb dX12_readRow_15 ?_
  refine j_callV (wr := [(rea, aI x.g 800 rd), (rby, aI x.g 4 cb), (rki, aI x.g 2 (zup ki q kd))]) jb k_X12_number i_X12_number s_X12_number l_X12_214 (C_X12_number x.l x.g n0 my sm st yb pkr rt rk rx si gt va re ua mk rki rea rby th dp sz mo ms hpk hsh vn wd wa pkk pxx bp bi pl1 cd1 rn rch rtn rdp rsh 4 B (by decide) hB (by omega) (by omega) (by omega)) 0 14 rfl rfl rfl [0, 1] [2, 3, 4] (by decide) rfl rfl (by decide) (by decide) rfl rfl (Nat.le_of_ble_eq_true rfl) (by decide) dX12_readRow_16 (fun v w hp => ?_)
  obtain ⟨w, cd2, pl2, rfl, rfl, h16⟩ := hp
  refine j_norm (lv' := [(3, .int (iI kd)), (0, .ref n0), (1, .int (iI q)), (2, .int (iI rb))]) (st' := [.long (lI w)]) (ws' := [(n0, oX12 th dp my sm st sz mo ms yb hpk pkr rt rk rx hsh si gt va vn wd wa re ua pkk pxx bp mk bi pl2 cd2 rn rch rtn rdp rki rea rby rsh), (st, aI x.g 2400 B), (rea, aI x.g 800 rd), (rby, aI x.g 4 cb), (rki, aI x.g 2 (zup ki q kd))]) [0, 1, 2, 3] [3, 4, 0, 1, 2] rfl rfl (by decide) rfl ?_
  have hw : 0 ≤ w ∧ w < 16 := h16.1.2.2.2.1
  have hc2 := cM_get (f := fun w p2 => fltR (rb ≤ w) 4 (shlR w (bodyR B sz rn (rb - w) kd z0 p2 z0))) hc1 h16.1
  refine j_l2i jb dX12_readRow_19 ?_
  refine j_istore (lv' := [(4, .int (iI w)), (3, .int (iI kd)), (0, .ref n0), (1, .int (iI q)), (2, .int (iI rb))]) jb dX12_readRow_20 (by decide) rfl ?_
  refine j_iload jb dX12_readRow_22 0 rfl ?_
  refine j_iload_n jb dX12_readRow_24 4 rfl ?_
  refine j_icmp_lt (tgt := 34) jb dX12_readRow_25 (by decide) (by omega) (by omega) (fun c_25 => ?_) (fun c_25 => ?_)
  · skip
    have hc3 := cI_flt hc2 (flt_no _ 4) (by decide) (Or.inr ⟨rfl, by omega⟩)
    refine j_iload_n jb dX12_readRow_34 4 rfl ?_
    refine j_iload jb dX12_readRow_35 0 rfl ?_
    refine j_isub jb dX12_readRow_37 ?_
    refine j_geni (fun left e_left => ?_)
    refine j_istore (lv' := [(5, .int (iI left)), (4, .int (iI w)), (3, .int (iI kd)), (0, .ref n0), (1, .int (iI q)), (2, .int (iI rb))]) jb dX12_readRow_38 (by decide) rfl ?_
    have hli : 1 ≤ left ∧ left ≤ 17 := by omega
    rw [← e_left] at hc3
    obtain ⟨Rb, hRb⟩ : ∃ R : RR, R = sR cd2 (bodyR B sz rn left kd cb pl2 (fun t => rd (400 * q + t))) := ⟨_, rfl⟩
    have hcb : contI Rb cd2 (bodyR B sz rn left kd cb pl2 (fun t => rd (400 * q + t))) := by (rw [hRb]; exact cI_s _ _)
    have hkn : cd2 = 0 → kd = num B pl 3 := fun z => (rdM_st h2.1 (rdM_st h16.1 z).1).2.2
    refine j_iload_n jb dX12_readRow_40 2 rfl ?_
    refine j_iconst jb dX12_readRow_41 ?_
    have J250 : ∀ (rsF cdF plF : Int) (rdF cbF : Int → Int), (isRn rn Rb cdF plF (fun t => rdF (400 * q + t)) ∧ (0 ≤ cdF ∧ cdF ≤ 20) ∧ (0 ≤ plF ∧ plF ≤ 8 * sz) ∧ (cdF = 0 → cd2 = 0 ∧ fitOn (fun t => rdF (400 * q + t)) left rn) ∧ (∀ j, (j < 400 * q ∨ 400 * q + 400 ≤ j) → rdF j = rd j) ∧ cfOk cbF ∧ (0 ≤ rsF ∧ rsF ≤ 15)) → JW x 0 0 250 [(0, .ref n0), (1, .int (iI q)), (2, .int (iI rb)), (3, .int (iI kd)), (4, .int (iI w)), (5, .int (iI left))] [] [(n0, oX12 th dp my sm st sz mo ms yb hpk pkr rt rk rx hsh si gt va vn wd wa re ua pkk pxx bp mk bi plF cdF rn rch rtn rdp rki rea rby rsF), (st, aI x.g 2400 B), (rea, aI x.g 800 rdF), (rby, aI x.g 4 cbF), (rki, aI x.g 2 (zup ki q kd))] := by
      intro rsF cdF plF rdF cbF ⟨hF1, hF2, hF3, hF4, hF5, hF6, hF7⟩
      refine j_iconst jb dX12_readRow_250 ?_
      refine j_istore (lv' := [(6, .int (iI 0)), (0, .ref n0), (1, .int (iI q)), (2, .int (iI rb)), (3, .int (iI kd)), (4, .int (iI w)), (5, .int (iI left))]) jb dX12_readRow_251 (by decide) rfl ?_
      have L253 : ∀ (fu : Nat) (i : Int) (rd6 : Int → Int), ((0 ≤ i ∧ i ≤ rn) ∧ (∀ j, 0 ≤ j → j < i → rd6 (400 * q + j) = rdF (400 * q + j) * 2 ^ w.toNat) ∧ (∀ j, i ≤ j → rd6 (400 * q + j) = rdF (400 * q + j)) ∧ (∀ j, (j < 400 * q ∨ 400 * q + 400 ≤ j) → rd6 j = rd j)) → (rn - i).toNat < fu → JW x 0 0 253 [(0, .ref n0), (1, .int (iI q)), (2, .int (iI rb)), (3, .int (iI kd)), (4, .int (iI w)), (5, .int (iI left)), (6, .int (iI i))] [] [(n0, oX12 th dp my sm st sz mo ms yb hpk pkr rt rk rx hsh si gt va vn wd wa re ua pkk pxx bp mk bi plF cdF rn rch rtn rdp rki rea rby rsF), (st, aI x.g 2400 B), (rea, aI x.g 800 rd6), (rby, aI x.g 4 cbF), (rki, aI x.g 2 (zup ki q kd))] := by
        intro fu
        induction fu with
        | zero => intro i rd6 _ hm; exact absurd hm (by omega)
        | succ fu ih =>
          intro i rd6 ⟨hs1, hs2, hs3, hs4⟩ hm253
          have ih253 := ih
          clear ih
          refine j_iload jb dX12_readRow_253 6 rfl ?_
          refine j_aload_n jb dX12_readRow_255 0 rfl ?_
          refine j_get jb f_X12_224 dX12_readRow_256 0 rfl rfl ?_
          refine j_icmp_ge (tgt := 293) jb dX12_readRow_259 (by decide) (by omega) (by omega) (fun c_259 => ?_) (fun c_259 => ?_)
          · skip
            refine j_norm (lv' := []) (st' := []) (ws' := [(n0, oX12 th dp my sm st sz mo ms yb hpk pkr rt rk rx hsh si gt va vn wd wa re ua pkk pxx bp mk bi plF cdF rn rch rtn rdp rki rea rby rsF), (st, aI x.g 2400 B), (rea, aI x.g 800 rd6), (rby, aI x.g 4 cbF), (rki, aI x.g 2 (zup ki q kd))]) [] [0, 1, 2, 3, 4] rfl rfl (by decide) rfl ?_
            exact j_vret jb jr dX12_readRow_293 ⟨_, _, _, _, _, _, rfl, rfl, (by rw [← hR0]; have hz : cdF = 0 → ∀ j, 0 ≤ j → j < rn → (fun t => rd6 (400 * q + t)) j = (fun t => rdF (400 * q + t)) j * 2 ^ w.toNat := (fun z j a b => hs2 j a (by omega)); exact ⟨row_end hc3 hRb (bodyR_cg hkd.1) hF1 hz, hF2, hF3, hF6, hF7, by omega, fun z => ⟨fitOn_shl hli.1 hw.1 (by omega) (hF4 z).2 (hz z), hkn (hF4 z).1⟩, hs4⟩)⟩
          · skip
            refine j_aload_n jb dX12_readRow_262 0 rfl ?_
            refine j_get jb f_X12_202 dX12_readRow_263 0 rfl rfl ?_
            refine j_if_ne (tgt := 293) jb dX12_readRow_266 (by decide) (by omega) (fun c_266 => ?_) (fun c_266 => ?_)
            · skip
              refine j_norm (lv' := []) (st' := []) (ws' := [(n0, oX12 th dp my sm st sz mo ms yb hpk pkr rt rk rx hsh si gt va vn wd wa re ua pkk pxx bp mk bi plF cdF rn rch rtn rdp rki rea rby rsF), (st, aI x.g 2400 B), (rea, aI x.g 800 rd6), (rby, aI x.g 4 cbF), (rki, aI x.g 2 (zup ki q kd))]) [] [0, 1, 2, 3, 4] rfl rfl (by decide) rfl ?_
              exact j_vret jb jr dX12_readRow_293 ⟨_, _, _, _, _, _, rfl, rfl, (by rw [← hR0]; have hz : cdF = 0 → ∀ j, 0 ≤ j → j < rn → (fun t => rd6 (400 * q + t)) j = (fun t => rdF (400 * q + t)) j * 2 ^ w.toNat := (fun z j a b => hs2 j a (by omega)); exact ⟨row_end hc3 hRb (bodyR_cg hkd.1) hF1 hz, hF2, hF3, hF6, hF7, by omega, fun z => ⟨fitOn_shl hli.1 hw.1 (by omega) (hF4 z).2 (hz z), hkn (hF4 z).1⟩, hs4⟩)⟩
            · skip
              refine j_aload_n jb dX12_readRow_269 0 rfl ?_
              refine j_get jb f_X12_63 dX12_readRow_270 0 rfl rfl ?_
              refine j_sipush jb dX12_readRow_273 (by decide) ?_
              refine j_iload_n jb dX12_readRow_276 1 rfl ?_
              refine j_imul jb dX12_readRow_277 ?_
              refine j_iload jb dX12_readRow_278 6 rfl ?_
              refine j_iadd jb dX12_readRow_280 ?_
              refine j_dup2 jb dX12_readRow_281 rfl rfl ?_
              refine j_iald jb dX12_readRow_282 2 rfl (by omega) (by decide) ?_
              refine j_iload jb dX12_readRow_283 4 rfl ?_
              refine j_ishl jb dX12_readRow_285 (by omega) ?_
              refine j_iast (ws' := [(n0, oX12 th dp my sm st sz mo ms yb hpk pkr rt rk rx hsh si gt va vn wd wa re ua pkk pxx bp mk bi plF cdF rn rch rtn rdp rki rea rby rsF), (st, aI x.g 2400 B), (rea, aI x.g 800 (zup rd6 ((400 * q) + i) ((rd6 ((400 * q) + i)) * 2 ^ w.toNat))), (rby, aI x.g 4 cbF), (rki, aI x.g 2 (zup ki q kd))]) jb dX12_readRow_286 2 rfl (by omega) (by decide) rfl ?_
              refine j_iinc (lv' := [(6, .int (iI (i + 1))), (0, .ref n0), (1, .int (iI q)), (2, .int (iI rb)), (3, .int (iI kd)), (4, .int (iI w)), (5, .int (iI left))]) jb dX12_readRow_287 6 rfl (by decide) rfl ?_
              refine j_goto (tgt := 253) jb dX12_readRow_290 (by decide) ?_
              refine j_norm (lv' := [(0, .ref n0), (1, .int (iI q)), (2, .int (iI rb)), (3, .int (iI kd)), (4, .int (iI w)), (5, .int (iI left)), (6, .int (iI (i + 1)))]) (st' := []) (ws' := [(n0, oX12 th dp my sm st sz mo ms yb hpk pkr rt rk rx hsh si gt va vn wd wa re ua pkk pxx bp mk bi plF cdF rn rch rtn rdp rki rea rby rsF), (st, aI x.g 2400 B), (rea, aI x.g 800 (zup rd6 ((400 * q) + i) ((rd6 ((400 * q) + i)) * 2 ^ w.toNat))), (rby, aI x.g 4 cbF), (rki, aI x.g 2 (zup ki q kd))]) [1, 2, 3, 4, 5, 6, 0] [0, 1, 2, 3, 4] rfl rfl (by decide) rfl ?_
              exact ih253 (i + 1) (zup rd6 ((400 * q) + i) ((rd6 ((400 * q) + i)) * 2 ^ w.toNat)) ⟨by omega, fun j a b => by (by_cases e : j = i); { rw [e, zup_s, hs3 i (Int.le_refl _)] }; { rw [zup_n (by omega)]; exact hs2 j a (by omega) }, fun j a => by rw [zup_n (by omega)]; exact hs3 j (by omega), fun j a => by rw [zup_n (by omega)]; exact hs4 j a⟩ (by omega)
      refine j_norm (lv' := [(0, .ref n0), (1, .int (iI q)), (2, .int (iI rb)), (3, .int (iI kd)), (4, .int (iI w)), (5, .int (iI left)), (6, .int (iI 0))]) (st' := []) (ws' := [(n0, oX12 th dp my sm st sz mo ms yb hpk pkr rt rk rx hsh si gt va vn wd wa re ua pkk pxx bp mk bi plF cdF rn rch rtn rdp rki rea rby rsF), (st, aI x.g 2400 B), (rea, aI x.g 800 rdF), (rby, aI x.g 4 cbF), (rki, aI x.g 2 (zup ki q kd))]) [1, 2, 3, 4, 5, 6, 0] [0, 1, 2, 3, 4] rfl rfl (by decide) rfl ?_
      exact L253 _ 0 rdF ⟨by omega, fun j a b => by omega, fun _ _ => rfl, hF5⟩ (Nat.lt_succ_self _)
    refine j_icmp_ge (tgt := 115) jb dX12_readRow_42 (by decide) (by omega) (by omega) (fun c_42 => ?_) (fun c_42 => ?_)
    · skip
      have hcf2 := hcb
      rw [body_2 (show 2 ≤ kd by omega)] at hcf2
      refine j_iload_n jb dX12_readRow_115 2 rfl ?_
      refine j_bipush jb dX12_readRow_116 (by decide) ?_
      have J135 : ∀ (o cd5 pl5 : Int), (contI Rb cd5 (fltR (rn < o) 5 (foR B sz rn left kd o cb pl5 (fun t => rd (400 * q + t)))) ∧ (0 ≤ cd5 ∧ cd5 ≤ 20) ∧ (0 ≤ pl5 ∧ pl5 ≤ 8 * sz) ∧ (0 ≤ o ∧ o ≤ 4) ∧ (kd < 7 → o = kd - 2) ∧ (cd5 = 0 → cd2 = 0)) → JW x 0 0 135 [(0, .ref n0), (1, .int (iI q)), (2, .int (iI rb)), (3, .int (iI kd)), (4, .int (iI w)), (5, .int (iI left))] [.int (iI o)] [(n0, oX12 th dp my sm st sz mo ms yb hpk pkr rt rk rx hsh si gt va vn wd wa re ua pkk pxx bp mk bi pl5 cd5 rn rch rtn rdp rki rea rby rsh), (st, aI x.g 2400 B), (rea, aI x.g 800 rd), (rby, aI x.g 4 cb), (rki, aI x.g 2 (zup ki q kd))] := by
        intro o cd5 pl5 ⟨hj1, hj2, hj3, hj4, hj5, hjz⟩
        refine j_istore (lv' := [(6, .int (iI o)), (0, .ref n0), (1, .int (iI q)), (2, .int (iI rb)), (3, .int (iI kd)), (4, .int (iI w)), (5, .int (iI left))]) jb dX12_readRow_135 (by decide) rfl ?_
        refine j_iload jb dX12_readRow_137 0 rfl ?_
        refine j_aload_n jb dX12_readRow_139 1 rfl ?_
        refine j_get jb f_X12_224 dX12_readRow_140 0 rfl rfl ?_
        have J151 : ∀ (cd6 : Int), (contI Rb cd6 (foR B sz rn left kd o cb pl5 (fun t => rd (400 * q + t))) ∧ (0 ≤ cd6 ∧ cd6 ≤ 20) ∧ (cd6 = 0 → cd5 = 0)) → JW x 0 0 151 [(0, .ref n0), (1, .int (iI q)), (2, .int (iI rb)), (3, .int (iI kd)), (4, .int (iI w)), (5, .int (iI left)), (6, .int (iI o))] [] [(n0, oX12 th dp my sm st sz mo ms yb hpk pkr rt rk rx hsh si gt va vn wd wa re ua pkk pxx bp mk bi pl5 cd6 rn rch rtn rdp rki rea rby rsh), (st, aI x.g 2400 B), (rea, aI x.g 800 rd), (rby, aI x.g 4 cb), (rki, aI x.g 2 (zup ki q kd))] := by
          intro cd6 hj6
          refine j_iload_n jb dX12_readRow_151 3 rfl ?_
          refine j_bipush jb dX12_readRow_152 (by decide) ?_
          have J197 : ∀ (rs9 cd9 pl9 : Int) (c9 : Int → Int), (contI Rb cd9 (restR B sz rn left o (if kd = 7 then rs9 else 0) (if kd = 7 then c9 else cFix o) pl9 (fun t => rd (400 * q + t))) ∧ (0 ≤ cd9 ∧ cd9 ≤ 20) ∧ (0 ≤ pl9 ∧ pl9 ≤ 8 * sz) ∧ cfOk c9 ∧ (0 ≤ rs9 ∧ rs9 ≤ 15) ∧ (cd9 = 0 → cd2 = 0)) → JW x 0 0 197 [(0, .ref n0), (1, .int (iI q)), (2, .int (iI rb)), (3, .int (iI kd)), (4, .int (iI w)), (5, .int (iI left)), (6, .int (iI o))] [] [(n0, oX12 th dp my sm st sz mo ms yb hpk pkr rt rk rx hsh si gt va vn wd wa re ua pkk pxx bp mk bi pl9 cd9 rn rch rtn rdp rki rea rby rs9), (st, aI x.g 2400 B), (rea, aI x.g 800 rd), (rby, aI x.g 4 c9), (rki, aI x.g 2 (zup ki q kd))] := by
            intro rs9 cd9 pl9 c9 ⟨h9a, h9b, h9c, h9cf, h9rs, h9z⟩
            obtain ⟨SH, hSH⟩ : ∃ s : Int, s = (if kd = 7 then rs9 else 0) := ⟨_, rfl⟩
            obtain ⟨CC, hCC⟩ : ∃ s : Int → Int, s = (if kd = 7 then c9 else cFix o) := ⟨_, rfl⟩
            rw [← hSH, ← hCC] at h9a
            have hK : (kd = 7 ∧ CC = c9 ∧ SH = rs9) ∨ (2 ≤ kd ∧ kd < 7 ∧ CC = cFix o ∧ SH = 0) := by (rw [hSH, hCC]; (by_cases z : kd = 7); { rw [if_pos z, if_pos z]; exact Or.inl ⟨z, rfl, rfl⟩ }; { rw [if_neg z, if_neg z]; exact Or.inr ⟨by omega, by omega, rfl, rfl⟩ })
            have hCf : cfOk CC := by (rcases hK with z | z; { rw [z.2.1]; exact h9cf }; { rw [z.2.2.1]; exact cFix_ok (by omega) (fun _ _ _ => rfl) })
            have hSi : 0 ≤ SH ∧ SH ≤ 15 := by (rcases hK with z | z; { rw [z.2.2]; exact h9rs }; { rw [z.2.2.2]; decide })
            clear hSH hCC
            refine j_iconst jb dX12_readRow_197 ?_
            refine j_istore (lv' := [(7, .int (iI 0)), (0, .ref n0), (1, .int (iI q)), (2, .int (iI rb)), (3, .int (iI kd)), (4, .int (iI w)), (5, .int (iI left)), (6, .int (iI o))]) jb dX12_readRow_198 (by decide) rfl ?_
            have L200 : ∀ (fu : Nat) (i cdA plA : Int) (rdA : Int → Int), ((0 ≤ i ∧ i ≤ o) ∧ (0 ≤ cdA ∧ cdA ≤ 20) ∧ (0 ≤ plA ∧ plA ≤ 8 * sz) ∧ contI Rb cdA (thenR (valsR B sz left (o - i).toNat i plA (fun t => rdA (400 * q + t))) (fun p w => getR B sz 3 p (fun q p2 => fltR (¬ mayP q rn o) 6 (partsR B sz left o SH CC (rn / 2 ^ q.toNat) (2 ^ q.toNat) 0 p2 w)))) ∧ (cdA = 0 → fitOn (fun t => rdA (400 * q + t)) left i ∧ cd2 = 0) ∧ (∀ j, (j < 400 * q ∨ 400 * q + 400 ≤ j) → rdA j = rd j)) → (o - i).toNat < fu → JW x 0 0 200 [(0, .ref n0), (1, .int (iI q)), (2, .int (iI rb)), (3, .int (iI kd)), (4, .int (iI w)), (5, .int (iI left)), (6, .int (iI o)), (7, .int (iI i))] [] [(n0, oX12 th dp my sm st sz mo ms yb hpk pkr rt rk rx hsh si gt va vn wd wa re ua pkk pxx bp mk bi plA cdA rn rch rtn rdp rki rea rby rs9), (st, aI x.g 2400 B), (rea, aI x.g 800 rdA), (rby, aI x.g 4 c9), (rki, aI x.g 2 (zup ki q kd))] := by
              intro fu
              induction fu with
              | zero => intro i cdA plA rdA _ hm; exact absurd hm (by omega)
              | succ fu ih =>
                intro i cdA plA rdA ⟨hA1, hA2, hA3, hA4, hA5, hA6⟩ hm200
                have ih200 := ih
                clear ih
                refine j_iload jb dX12_readRow_200 7 rfl ?_
                refine j_iload jb dX12_readRow_202 6 rfl ?_
                have J240 : (contI Rb cdA ((fun p w => getR B sz 3 p (fun q p2 => fltR (¬ mayP q rn o) 6 (partsR B sz left o SH CC (rn / 2 ^ q.toNat) (2 ^ q.toNat) 0 p2 w))) plA (fun t => rdA (400 * q + t))) ∧ (cdA = 0 → fitOn (fun t => rdA (400 * q + t)) left o)) → JW x 0 0 240 [(0, .ref n0), (1, .int (iI q)), (2, .int (iI rb)), (3, .int (iI kd)), (4, .int (iI w)), (5, .int (iI left)), (6, .int (iI o)), (7, .int (iI i))] [] [(n0, oX12 th dp my sm st sz mo ms yb hpk pkr rt rk rx hsh si gt va vn wd wa re ua pkk pxx bp mk bi plA cdA rn rch rtn rdp rki rea rby rs9), (st, aI x.g 2400 B), (rea, aI x.g 800 rdA), (rby, aI x.g 4 c9), (rki, aI x.g 2 (zup ki q kd))] := by
                  intro  hj240
                  have hcA0 : cdA = 0 → cd2 = 0 := fun z => (hA5 z).2
                  refine j_aload_n jb dX12_readRow_240 0 rfl ?_
                  refine j_iload_n jb dX12_readRow_241 1 rfl ?_
                  refine j_iload_n jb dX12_readRow_242 3 rfl ?_
                  refine j_iload jb dX12_readRow_243 6 rfl ?_
                  refine j_iload jb dX12_readRow_245 5 rfl ?_
                  refine j_callV (wr := [(rki, aI x.g 2 (zup ki q kd))]) jb k_X12_readRests i_X12_readRests s_X12_readRests l_X12_230 (C_X12_readRests x.l x.g n0 my sm st yb pkr rt rk rx si gt va re ua mk rki rea rby th dp sz mo ms hpk hsh vn wd wa pkk pxx bp bi plA cdA rn rch rtn rdp rs9 q kd o left SH B rdA c9 CC hK hq hn (by omega) (by omega) hj240.2 hCf hSi hB (by omega) (by omega) (by omega)) 0 14 rfl rfl rfl [0, 1, 2, 3] [4] (by decide) rfl rfl (by decide) (by decide) rfl rfl (Nat.le_of_ble_eq_true rfl) (by decide) dX12_readRow_247 (fun v w hp => ?_)
                  obtain ⟨cdB, plB, rdB9, rfl, rfl, h247⟩ := hp
                  refine j_norm (lv' := [(0, .ref n0), (1, .int (iI q)), (2, .int (iI rb)), (3, .int (iI kd)), (4, .int (iI w)), (5, .int (iI left)), (6, .int (iI o)), (7, .int (iI i))]) (st' := []) (ws' := [(n0, oX12 th dp my sm st sz mo ms yb hpk pkr rt rk rx hsh si gt va vn wd wa re ua pkk pxx bp mk bi plB cdB rn rch rtn rdp rki rea rby rs9), (st, aI x.g 2400 B), (rea, aI x.g 800 rdB9), (rby, aI x.g 4 c9), (rki, aI x.g 2 (zup ki q kd))]) [0, 1, 2, 3, 4, 5, 6, 7] [1, 2, 3, 4, 0] rfl rfl (by decide) rfl ?_
                  refine j_norm (lv' := [(0, .ref n0), (1, .int (iI q)), (2, .int (iI rb)), (3, .int (iI kd)), (4, .int (iI w)), (5, .int (iI left))]) (st' := []) (ws' := [(n0, oX12 th dp my sm st sz mo ms yb hpk pkr rt rk rx hsh si gt va vn wd wa re ua pkk pxx bp mk bi plB cdB rn rch rtn rdp rki rea rby rs9), (st, aI x.g 2400 B), (rea, aI x.g 800 rdB9), (rby, aI x.g 4 c9), (rki, aI x.g 2 (zup ki q kd))]) [0, 1, 2, 3, 4, 5] [0, 1, 2, 3, 4] rfl rfl (by decide) rfl ?_
                  exact J250 rs9 cdB plB rdB9 c9 (by have z := cI_isR hj240.1 h247.1; exact ⟨isRn_of z (eqR_same _ _), h247.2.1, h247.2.2.1, fun y => ⟨hcA0 (h247.2.2.2.1 y).1, (h247.2.2.2.1 y).2⟩, fun j a => (h247.2.2.2.2 j a).trans (hA6 j a), h9cf, h9rs⟩)
                refine j_icmp_ge (tgt := 240) jb dX12_readRow_204 (by decide) (by omega) (by omega) (fun c_204 => ?_) (fun c_204 => ?_)
                · skip
                  refine j_norm (lv' := [(0, .ref n0), (1, .int (iI q)), (2, .int (iI rb)), (3, .int (iI kd)), (4, .int (iI w)), (5, .int (iI left)), (6, .int (iI o)), (7, .int (iI i))]) (st' := []) (ws' := [(n0, oX12 th dp my sm st sz mo ms yb hpk pkr rt rk rx hsh si gt va vn wd wa re ua pkk pxx bp mk bi plA cdA rn rch rtn rdp rki rea rby rs9), (st, aI x.g 2400 B), (rea, aI x.g 800 rdA), (rby, aI x.g 4 c9), (rki, aI x.g 2 (zup ki q kd))]) [0, 1, 2, 3, 4, 5, 6, 7] [0, 1, 2, 3, 4] rfl rfl (by decide) rfl ?_
                  exact J240  ⟨valsT_0 (G := (fun p w => getR B sz 3 p (fun q p2 => fltR (¬ mayP q rn o) 6 (partsR B sz left o SH CC (rn / 2 ^ q.toNat) (2 ^ q.toNat) 0 p2 w)))) hA4 (by omega), fun z => by rw [show o = i by omega]; exact (hA5 z).1⟩
                · skip
                  refine j_aload_n jb dX12_readRow_207 0 rfl ?_
                  refine j_get jb f_X12_202 dX12_readRow_208 0 rfl rfl ?_
                  refine j_if_ne (tgt := 240) jb dX12_readRow_211 (by decide) (by omega) (fun c_211 => ?_) (fun c_211 => ?_)
                  · skip
                    refine j_norm (lv' := [(0, .ref n0), (1, .int (iI q)), (2, .int (iI rb)), (3, .int (iI kd)), (4, .int (iI w)), (5, .int (iI left)), (6, .int (iI o)), (7, .int (iI i))]) (st' := []) (ws' := [(n0, oX12 th dp my sm st sz mo ms yb hpk pkr rt rk rx hsh si gt va vn wd wa re ua pkk pxx bp mk bi plA cdA rn rch rtn rdp rki rea rby rs9), (st, aI x.g 2400 B), (rea, aI x.g 800 rdA), (rby, aI x.g 4 c9), (rki, aI x.g 2 (zup ki q kd))]) [0, 1, 2, 3, 4, 5, 6, 7] [0, 1, 2, 3, 4] rfl rfl (by decide) rfl ?_
                    exact J240  ⟨cI_any hA4 c_211, fun z => absurd z c_211⟩
                  · skip
                    refine j_aload_n jb dX12_readRow_214 0 rfl ?_
                    refine j_get jb f_X12_63 dX12_readRow_215 0 rfl rfl ?_
                    refine j_sipush jb dX12_readRow_218 (by decide) ?_
                    refine j_iload_n jb dX12_readRow_221 1 rfl ?_
                    refine j_imul jb dX12_readRow_222 ?_
                    refine j_iload jb dX12_readRow_223 7 rfl ?_
                    refine j_iadd jb dX12_readRow_225 ?_
                    refine j_aload_n jb dX12_readRow_226 0 rfl ?_
                    refine j_iload jb dX12_readRow_227 5 rfl ?_
                    refine j_callV (wr := [(rea, aI x.g 800 rdA), (rby, aI x.g 4 c9), (rki, aI x.g 2 (zup ki q kd))]) jb k_X12_signed i_X12_signed s_X12_signed l_X12_227 (C_X12_signed x.l x.g n0 my sm st yb pkr rt rk rx si gt va re ua mk rki rea rby th dp sz mo ms hpk hsh vn wd wa pkk pxx bp bi plA cdA rn rch rtn rdp rs9 left B (by omega) hB (by omega) (by omega) (by omega)) 0 14 rfl rfl rfl [0, 1] [2, 3, 4] (by decide) rfl rfl (by decide) (by decide) rfl rfl (Nat.le_of_ble_eq_true rfl) (by decide) dX12_readRow_229 (fun v w hp => ?_)
                    obtain ⟨s3, q3, cdy, ply, rfl, rfl, h229⟩ := hp
                    refine j_norm (lv' := [(0, .ref n0), (1, .int (iI q)), (2, .int (iI rb)), (3, .int (iI kd)), (4, .int (iI w)), (5, .int (iI left)), (6, .int (iI o)), (7, .int (iI i))]) (st' := [.long (lI s3), .int (iI ((400 * q) + i)), .ref rea]) (ws' := [(n0, oX12 th dp my sm st sz mo ms yb hpk pkr rt rk rx hsh si gt va vn wd wa re ua pkk pxx bp mk bi ply cdy rn rch rtn rdp rki rea rby rs9), (st, aI x.g 2400 B), (rea, aI x.g 800 rdA), (rby, aI x.g 4 c9), (rki, aI x.g 2 (zup ki q kd))]) [0, 1, 2, 3, 4, 5, 6, 7] [3, 4, 0, 1, 2] rfl rfl (by decide) rfl ?_
                    have hfs3 : fit s3 left := by (rw [h229.1]; exact sgn_fit (by omega))
                    refine j_l2i jb dX12_readRow_232 ?_
                    refine j_iast (ws' := [(n0, oX12 th dp my sm st sz mo ms yb hpk pkr rt rk rx hsh si gt va vn wd wa re ua pkk pxx bp mk bi ply cdy rn rch rtn rdp rki rea rby rs9), (st, aI x.g 2400 B), (rea, aI x.g 800 (zup rdA ((400 * q) + i) s3)), (rby, aI x.g 4 c9), (rki, aI x.g 2 (zup ki q kd))]) jb dX12_readRow_233 2 rfl (by omega) (by decide) rfl ?_
                    refine j_iinc (lv' := [(7, .int (iI (i + 1))), (0, .ref n0), (1, .int (iI q)), (2, .int (iI rb)), (3, .int (iI kd)), (4, .int (iI w)), (5, .int (iI left)), (6, .int (iI o))]) jb dX12_readRow_234 7 rfl (by decide) rfl ?_
                    refine j_goto (tgt := 200) jb dX12_readRow_237 (by decide) ?_
                    refine j_norm (lv' := [(0, .ref n0), (1, .int (iI q)), (2, .int (iI rb)), (3, .int (iI kd)), (4, .int (iI w)), (5, .int (iI left)), (6, .int (iI o)), (7, .int (iI (i + 1)))]) (st' := []) (ws' := [(n0, oX12 th dp my sm st sz mo ms yb hpk pkr rt rk rx hsh si gt va vn wd wa re ua pkk pxx bp mk bi ply cdy rn rch rtn rdp rki rea rby rs9), (st, aI x.g 2400 B), (rea, aI x.g 800 (zup rdA ((400 * q) + i) s3)), (rby, aI x.g 4 c9), (rki, aI x.g 2 (zup ki q kd))]) [1, 2, 3, 4, 5, 6, 7, 0] [0, 1, 2, 3, 4] rfl rfl (by decide) rfl ?_
                    exact ih200 (i + 1) cdy ply (zup rdA ((400 * q) + i) s3) (by have z : (fun t => zup rdA (400 * q + i) s3 (400 * q + t)) = zup (fun t => rdA (400 * q + t)) i s3 := sh_up; exact ⟨by omega, h229.2.2.1, h229.2.2.2, by rw [z, h229.1]; exact valsT_step (G := (fun p w => getR B sz 3 p (fun q p2 => fltR (¬ mayP q rn o) 6 (partsR B sz left o SH CC (rn / 2 ^ q.toNat) (2 ^ q.toNat) 0 p2 w)))) hA4 (by omega) h229.2.1, fun y => (by have w9 := hA5 (rdM_st h229.2.1 y).1; rw [z]; exact ⟨fitOn_up w9.1 hfs3, w9.2⟩), fun j a => by rw [zup_n (by omega)]; exact hA6 j a⟩) (by omega)
            refine j_norm (lv' := [(0, .ref n0), (1, .int (iI q)), (2, .int (iI rb)), (3, .int (iI kd)), (4, .int (iI w)), (5, .int (iI left)), (6, .int (iI o)), (7, .int (iI 0))]) (st' := []) (ws' := [(n0, oX12 th dp my sm st sz mo ms yb hpk pkr rt rk rx hsh si gt va vn wd wa re ua pkk pxx bp mk bi pl9 cd9 rn rch rtn rdp rki rea rby rs9), (st, aI x.g 2400 B), (rea, aI x.g 800 rd), (rby, aI x.g 4 c9), (rki, aI x.g 2 (zup ki q kd))]) [1, 2, 3, 4, 5, 6, 7, 0] [0, 1, 2, 3, 4] rfl rfl (by decide) rfl ?_
            exact L200 _ 0 cd9 pl9 rd ⟨by omega, h9b, h9c, by rw [Int.sub_zero]; exact h9a, fun z => ⟨fun j a b => by omega, h9z z⟩, fun _ _ => rfl⟩ (Nat.lt_succ_self _)
          refine j_icmp_ne (tgt := 197) jb dX12_readRow_154 (by decide) (by omega) (by omega) (fun c_154 => ?_) (fun c_154 => ?_)
          · skip
            refine j_norm (lv' := [(0, .ref n0), (1, .int (iI q)), (2, .int (iI rb)), (3, .int (iI kd)), (4, .int (iI w)), (5, .int (iI left)), (6, .int (iI o))]) (st' := []) (ws' := [(n0, oX12 th dp my sm st sz mo ms yb hpk pkr rt rk rx hsh si gt va vn wd wa re ua pkk pxx bp mk bi pl5 cd6 rn rch rtn rdp rki rea rby rsh), (st, aI x.g 2400 B), (rea, aI x.g 800 rd), (rby, aI x.g 4 cb), (rki, aI x.g 2 (zup ki q kd))]) [0, 1, 2, 3, 4, 5, 6] [0, 1, 2, 3, 4] rfl rfl (by decide) rfl ?_
            exact J197 rsh cd6 pl5 cb (by have z := hj6.1; unfold foR at z; rw [if_neg c_154] at z; exact ⟨by rw [if_neg c_154, if_neg c_154]; exact z, hj6.2.1, hj3, hcf, hrs, fun y => hjz (hj6.2.2 y)⟩)
          · skip
            refine j_aload_n jb dX12_readRow_157 0 rfl ?_
            refine j_aload_n jb dX12_readRow_158 0 rfl ?_
            refine j_iconst jb dX12_readRow_159 ?_
            refine j_callV (wr := [(rea, aI x.g 800 rd), (rby, aI x.g 4 cb), (rki, aI x.g 2 (zup ki q kd))]) jb k_X12_number i_X12_number s_X12_number l_X12_214 (C_X12_number x.l x.g n0 my sm st yb pkr rt rk rx si gt va re ua mk rki rea rby th dp sz mo ms hpk hsh vn wd wa pkk pxx bp bi pl5 cd6 rn rch rtn rdp rsh 4 B (by decide) hB (by omega) (by omega) (by omega)) 0 14 rfl rfl rfl [0, 1] [2, 3, 4] (by decide) rfl rfl (by decide) (by decide) rfl rfl (Nat.le_of_ble_eq_true rfl) (by decide) dX12_readRow_160 (fun v w hp => ?_)
            obtain ⟨sh7, cd7, pl7, rfl, rfl, h160⟩ := hp
            refine j_norm (lv' := [(0, .ref n0), (1, .int (iI q)), (2, .int (iI rb)), (3, .int (iI kd)), (4, .int (iI w)), (5, .int (iI left)), (6, .int (iI o))]) (st' := [.long (lI sh7), .ref n0]) (ws' := [(n0, oX12 th dp my sm st sz mo ms yb hpk pkr rt rk rx hsh si gt va vn wd wa re ua pkk pxx bp mk bi pl7 cd7 rn rch rtn rdp rki rea rby rsh), (st, aI x.g 2400 B), (rea, aI x.g 800 rd), (rby, aI x.g 4 cb), (rki, aI x.g 2 (zup ki q kd))]) [0, 1, 2, 3, 4, 5, 6] [3, 4, 0, 1, 2] rfl rfl (by decide) rfl ?_
            have hsh7 : 0 ≤ sh7 ∧ sh7 < 16 := h160.1.2.2.2.1
            have hc7 := hj6.1
            unfold foR at hc7
            rw [if_pos c_154] at hc7
            have hc7 := cM_get (f := fun sh p2 => thenR (valsR B sz 10 o.toNat 0 p2 cb) (fun p3 c2 => restR B sz rn left o sh c2 p3 (fun t => rd (400 * q + t)))) hc7 h160.1
            refine j_l2i jb dX12_readRow_163 ?_
            refine j_put (ws' := [(n0, oX12 th dp my sm st sz mo ms yb hpk pkr rt rk rx hsh si gt va vn wd wa re ua pkk pxx bp mk bi pl7 cd7 rn rch rtn rdp rki rea rby sh7), (st, aI x.g 2400 B), (rea, aI x.g 800 rd), (rby, aI x.g 4 cb), (rki, aI x.g 2 (zup ki q kd))]) jb f_X12_221 w_X12_37 rfl dX12_readRow_164 0 rfl rfl rfl (Nat.le_of_ble_eq_true rfl) rfl ?_
            refine j_iconst jb dX12_readRow_167 ?_
            refine j_istore (lv' := [(7, .int (iI 0)), (0, .ref n0), (1, .int (iI q)), (2, .int (iI rb)), (3, .int (iI kd)), (4, .int (iI w)), (5, .int (iI left)), (6, .int (iI o))]) jb dX12_readRow_168 (by decide) rfl ?_
            have L170 : ∀ (fu : Nat) (j cd8 pl8 : Int) (c8 : Int → Int), ((0 ≤ j ∧ j ≤ o) ∧ (0 ≤ cd8 ∧ cd8 ≤ 20) ∧ (0 ≤ pl8 ∧ pl8 ≤ 8 * sz) ∧ contI Rb cd8 (thenR (valsR B sz 10 (o - j).toNat j pl8 c8) (fun p3 c2 => restR B sz rn left o sh7 c2 p3 (fun t => rd (400 * q + t)))) ∧ cfOk c8 ∧ (cd8 = 0 → cd2 = 0)) → (o - j).toNat < fu → JW x 0 0 170 [(0, .ref n0), (1, .int (iI q)), (2, .int (iI rb)), (3, .int (iI kd)), (4, .int (iI w)), (5, .int (iI left)), (6, .int (iI o)), (7, .int (iI j))] [] [(n0, oX12 th dp my sm st sz mo ms yb hpk pkr rt rk rx hsh si gt va vn wd wa re ua pkk pxx bp mk bi pl8 cd8 rn rch rtn rdp rki rea rby sh7), (st, aI x.g 2400 B), (rea, aI x.g 800 rd), (rby, aI x.g 4 c8), (rki, aI x.g 2 (zup ki q kd))] := by
              intro fu
              induction fu with
              | zero => intro j cd8 pl8 c8 _ hm; exact absurd hm (by omega)
              | succ fu ih =>
                intro j cd8 pl8 c8 ⟨hk1, hk2, hk3, hk4, hk5, hk6⟩ hm170
                have ih170 := ih
                clear ih
                refine j_iload jb dX12_readRow_170 7 rfl ?_
                refine j_iload jb dX12_readRow_172 6 rfl ?_
                refine j_icmp_ge (tgt := 197) jb dX12_readRow_174 (by decide) (by omega) (by omega) (fun c_174 => ?_) (fun c_174 => ?_)
                · skip
                  refine j_norm (lv' := [(0, .ref n0), (1, .int (iI q)), (2, .int (iI rb)), (3, .int (iI kd)), (4, .int (iI w)), (5, .int (iI left)), (6, .int (iI o))]) (st' := []) (ws' := [(n0, oX12 th dp my sm st sz mo ms yb hpk pkr rt rk rx hsh si gt va vn wd wa re ua pkk pxx bp mk bi pl8 cd8 rn rch rtn rdp rki rea rby sh7), (st, aI x.g 2400 B), (rea, aI x.g 800 rd), (rby, aI x.g 4 c8), (rki, aI x.g 2 (zup ki q kd))]) [0, 1, 2, 3, 4, 5, 6] [0, 1, 2, 3, 4] rfl rfl (by decide) rfl ?_
                  exact J197 sh7 cd8 pl8 c8 ⟨by rw [if_pos c_154, if_pos c_154]; exact valsT_0 (G := (fun p3 c2 => restR B sz rn left o sh7 c2 p3 (fun t => rd (400 * q + t)))) hk4 (by omega), hk2, hk3, hk5, by omega, hk6⟩
                · skip
                  refine j_aload_n jb dX12_readRow_177 0 rfl ?_
                  refine j_get jb f_X12_66 dX12_readRow_178 0 rfl rfl ?_
                  refine j_iload jb dX12_readRow_181 7 rfl ?_
                  refine j_aload_n jb dX12_readRow_183 0 rfl ?_
                  refine j_bipush jb dX12_readRow_184 (by decide) ?_
                  refine j_callV (wr := [(rea, aI x.g 800 rd), (rby, aI x.g 4 c8), (rki, aI x.g 2 (zup ki q kd))]) jb k_X12_signed i_X12_signed s_X12_signed l_X12_227 (C_X12_signed x.l x.g n0 my sm st yb pkr rt rk rx si gt va re ua mk rki rea rby th dp sz mo ms hpk hsh vn wd wa pkk pxx bp bi pl8 cd8 rn rch rtn rdp sh7 10 B (by decide) hB (by omega) (by omega) (by omega)) 0 14 rfl rfl rfl [0, 1] [2, 3, 4] (by decide) rfl rfl (by decide) (by decide) rfl rfl (Nat.le_of_ble_eq_true rfl) (by decide) dX12_readRow_186 (fun v w hp => ?_)
                  obtain ⟨s2, q2, cdx, plx, rfl, rfl, h186⟩ := hp
                  refine j_norm (lv' := [(0, .ref n0), (1, .int (iI q)), (2, .int (iI rb)), (3, .int (iI kd)), (4, .int (iI w)), (5, .int (iI left)), (6, .int (iI o)), (7, .int (iI j))]) (st' := [.long (lI s2), .int (iI j), .ref rby]) (ws' := [(n0, oX12 th dp my sm st sz mo ms yb hpk pkr rt rk rx hsh si gt va vn wd wa re ua pkk pxx bp mk bi plx cdx rn rch rtn rdp rki rea rby sh7), (st, aI x.g 2400 B), (rea, aI x.g 800 rd), (rby, aI x.g 4 c8), (rki, aI x.g 2 (zup ki q kd))]) [0, 1, 2, 3, 4, 5, 6, 7] [3, 4, 0, 1, 2] rfl rfl (by decide) rfl ?_
                  have hfs2 : fit s2 10 := by (rw [h186.1]; exact sgn_fit (by decide))
                  refine j_l2i jb dX12_readRow_189 ?_
                  refine j_iast (ws' := [(n0, oX12 th dp my sm st sz mo ms yb hpk pkr rt rk rx hsh si gt va vn wd wa re ua pkk pxx bp mk bi plx cdx rn rch rtn rdp rki rea rby sh7), (st, aI x.g 2400 B), (rea, aI x.g 800 rd), (rby, aI x.g 4 (zup c8 j s2)), (rki, aI x.g 2 (zup ki q kd))]) jb dX12_readRow_190 3 rfl (by omega) (by decide) rfl ?_
                  refine j_iinc (lv' := [(7, .int (iI (j + 1))), (0, .ref n0), (1, .int (iI q)), (2, .int (iI rb)), (3, .int (iI kd)), (4, .int (iI w)), (5, .int (iI left)), (6, .int (iI o))]) jb dX12_readRow_191 7 rfl (by decide) rfl ?_
                  refine j_goto (tgt := 170) jb dX12_readRow_194 (by decide) ?_
                  refine j_norm (lv' := [(0, .ref n0), (1, .int (iI q)), (2, .int (iI rb)), (3, .int (iI kd)), (4, .int (iI w)), (5, .int (iI left)), (6, .int (iI o)), (7, .int (iI (j + 1)))]) (st' := []) (ws' := [(n0, oX12 th dp my sm st sz mo ms yb hpk pkr rt rk rx hsh si gt va vn wd wa re ua pkk pxx bp mk bi plx cdx rn rch rtn rdp rki rea rby sh7), (st, aI x.g 2400 B), (rea, aI x.g 800 rd), (rby, aI x.g 4 (zup c8 j s2)), (rki, aI x.g 2 (zup ki q kd))]) [1, 2, 3, 4, 5, 6, 7, 0] [0, 1, 2, 3, 4] rfl rfl (by decide) rfl ?_
                  exact ih170 (j + 1) cdx plx (zup c8 j s2) ⟨by omega, h186.2.2.1, h186.2.2.2, by rw [h186.1]; exact valsT_step (G := (fun p3 c2 => restR B sz rn left o sh7 c2 p3 (fun t => rd (400 * q + t)))) hk4 (by omega) h186.2.1, cf_up hk5 hfs2, fun z => hk6 (rdM_st h186.2.1 z).1⟩ (by omega)
            refine j_norm (lv' := [(0, .ref n0), (1, .int (iI q)), (2, .int (iI rb)), (3, .int (iI kd)), (4, .int (iI w)), (5, .int (iI left)), (6, .int (iI o)), (7, .int (iI 0))]) (st' := []) (ws' := [(n0, oX12 th dp my sm st sz mo ms yb hpk pkr rt rk rx hsh si gt va vn wd wa re ua pkk pxx bp mk bi pl7 cd7 rn rch rtn rdp rki rea rby sh7), (st, aI x.g 2400 B), (rea, aI x.g 800 rd), (rby, aI x.g 4 cb), (rki, aI x.g 2 (zup ki q kd))]) [1, 2, 3, 4, 5, 6, 7, 0] [0, 1, 2, 3, 4] rfl rfl (by decide) rfl ?_
            exact L170 _ 0 cd7 pl7 cb ⟨by omega, h160.2.1, h160.2.2, by rw [Int.sub_zero]; exact hc7, hcf, fun z => hjz (hj6.2.2 (rdM_st h160.1 z).1)⟩ (Nat.lt_succ_self _)
        refine j_icmp_le (tgt := 151) jb dX12_readRow_143 (by decide) (by omega) (by omega) (fun c_143 => ?_) (fun c_143 => ?_)
        · skip
          refine j_norm (lv' := [(0, .ref n0), (1, .int (iI q)), (2, .int (iI rb)), (3, .int (iI kd)), (4, .int (iI w)), (5, .int (iI left)), (6, .int (iI o))]) (st' := []) (ws' := [(n0, oX12 th dp my sm st sz mo ms yb hpk pkr rt rk rx hsh si gt va vn wd wa re ua pkk pxx bp mk bi pl5 cd5 rn rch rtn rdp rki rea rby rsh), (st, aI x.g 2400 B), (rea, aI x.g 800 rd), (rby, aI x.g 4 cb), (rki, aI x.g 2 (zup ki q kd))]) [1, 2, 3, 4, 5, 6, 0] [0, 1, 2, 3, 4] rfl rfl (by decide) rfl ?_
          exact J151 cd5 ⟨cI_flt hj1 (flt_no _ 5) (by decide) (Or.inr ⟨rfl, by omega⟩), hj2, fun z => z⟩
        · skip
          refine j_aload_n jb dX12_readRow_146 1 rfl ?_
          refine j_iconst jb dX12_readRow_147 ?_
          refine j_callV (wr := [(st, aI x.g 2400 B), (rea, aI x.g 800 rd), (rby, aI x.g 4 cb), (rki, aI x.g 2 (zup ki q kd))]) jb k_X12_wrong i_X12_wrong s_X12_wrong l_X12_208 (C_X12_wrong x.l x.g n0 my sm st yb pkr rt rk rx si gt va re ua mk rki rea rby th dp sz mo ms hpk hsh vn wd wa pkk pxx bp bi pl5 cd5 rn rch rtn rdp rsh 5 (by omega)) 0 14 rfl rfl rfl [0] [1, 2, 3, 4] (by decide) rfl rfl (by decide) (by decide) rfl rfl (Nat.le_of_ble_eq_true rfl) (by decide) dX12_readRow_148 (fun v w hp => ?_)
          obtain ⟨cd6, rfl, rfl, h148⟩ := hp
          refine j_norm (lv' := [(6, .int (iI o)), (0, .ref n0), (1, .int (iI q)), (2, .int (iI rb)), (3, .int (iI kd)), (4, .int (iI w)), (5, .int (iI left))]) (st' := []) (ws' := [(n0, oX12 th dp my sm st sz mo ms yb hpk pkr rt rk rx hsh si gt va vn wd wa re ua pkk pxx bp mk bi pl5 cd6 rn rch rtn rdp rki rea rby rsh), (st, aI x.g 2400 B), (rea, aI x.g 800 rd), (rby, aI x.g 4 cb), (rki, aI x.g 2 (zup ki q kd))]) [0, 1, 2, 3, 4, 5, 6] [4, 0, 1, 2, 3] rfl rfl (by decide) rfl ?_
          refine j_norm (lv' := [(0, .ref n0), (1, .int (iI q)), (2, .int (iI rb)), (3, .int (iI kd)), (4, .int (iI w)), (5, .int (iI left)), (6, .int (iI o))]) (st' := []) (ws' := [(n0, oX12 th dp my sm st sz mo ms yb hpk pkr rt rk rx hsh si gt va vn wd wa re ua pkk pxx bp mk bi pl5 cd6 rn rch rtn rdp rki rea rby rsh), (st, aI x.g 2400 B), (rea, aI x.g 800 rd), (rby, aI x.g 4 cb), (rki, aI x.g 2 (zup ki q kd))]) [1, 2, 3, 4, 5, 6, 0] [0, 1, 2, 3, 4] rfl rfl (by decide) rfl ?_
          exact J151 cd6 ⟨cI_flt hj1 h148 (by decide) (Or.inl ⟨by decide, by omega⟩), flt_in h148 hj2 (by decide), fun z => (flt_0 h148 (by decide) z).2⟩
      refine j_icmp_ge (tgt := 127) jb dX12_readRow_118 (by decide) (by omega) (by omega) (fun c_118 => ?_) (fun c_118 => ?_)
      · skip
        refine j_aload_n jb dX12_readRow_127 3 rfl ?_
        refine j_iconst jb dX12_readRow_128 ?_
        refine j_callV (wr := [(rea, aI x.g 800 rd), (rby, aI x.g 4 cb), (rki, aI x.g 2 (zup ki q kd))]) jb k_X12_number i_X12_number s_X12_number l_X12_214 (C_X12_number x.l x.g n0 my sm st yb pkr rt rk rx si gt va re ua mk rki rea rby th dp sz mo ms hpk hsh vn wd wa pkk pxx bp bi pl2 cd2 rn rch rtn rdp rsh 2 B (by decide) hB (by omega) (by omega) (by omega)) 0 14 rfl rfl rfl [0, 1] [2, 3, 4] (by decide) rfl rfl (by decide) (by decide) rfl rfl (Nat.le_of_ble_eq_true rfl) (by decide) dX12_readRow_129 (fun v w hp => ?_)
        obtain ⟨r9, cd5, pl5, rfl, rfl, h129⟩ := hp
        refine j_norm (lv' := [(5, .int (iI left)), (4, .int (iI w)), (3, .int (iI kd)), (0, .ref n0), (1, .int (iI q)), (2, .int (iI rb))]) (st' := [.long (lI r9)]) (ws' := [(n0, oX12 th dp my sm st sz mo ms yb hpk pkr rt rk rx hsh si gt va vn wd wa re ua pkk pxx bp mk bi pl5 cd5 rn rch rtn rdp rki rea rby rsh), (st, aI x.g 2400 B), (rea, aI x.g 800 rd), (rby, aI x.g 4 cb), (rki, aI x.g 2 (zup ki q kd))]) [0, 1, 2, 3, 4, 5] [3, 4, 0, 1, 2] rfl rfl (by decide) rfl ?_
        have hr9 : 0 ≤ r9 ∧ r9 < 4 := h129.1.2.2.2.1
        refine j_l2i jb dX12_readRow_132 ?_
        refine j_iconst jb dX12_readRow_133 ?_
        refine j_iadd jb dX12_readRow_134 ?_
        refine j_norm (lv' := [(0, .ref n0), (1, .int (iI q)), (2, .int (iI rb)), (3, .int (iI kd)), (4, .int (iI w)), (5, .int (iI left))]) (st' := [.int (iI (r9 + 1))]) (ws' := [(n0, oX12 th dp my sm st sz mo ms yb hpk pkr rt rk rx hsh si gt va vn wd wa re ua pkk pxx bp mk bi pl5 cd5 rn rch rtn rdp rki rea rby rsh), (st, aI x.g 2400 B), (rea, aI x.g 800 rd), (rby, aI x.g 4 cb), (rki, aI x.g 2 (zup ki q kd))]) [3, 4, 5, 2, 1, 0] [0, 1, 2, 3, 4] rfl rfl (by decide) rfl ?_
        exact J135 (r9 + 1) cd5 pl5 ⟨by rw [foreR_7 (show kd = 7 by omega)] at hcf2; exact cM_get (f := fun qq p => fltR (rn < qq + 1) 5 (foR B sz rn left kd (qq + 1) cb p (fun t => rd (400 * q + t)))) hcf2 h129.1, h129.2.1, h129.2.2, by omega, fun z => by omega, fun z => (rdM_st h129.1 z).1⟩
      · skip
        refine j_iload_n jb dX12_readRow_121 2 rfl ?_
        refine j_iconst jb dX12_readRow_122 ?_
        refine j_isub jb dX12_readRow_123 ?_
        refine j_goto (tgt := 135) jb dX12_readRow_124 (by decide) ?_
        refine j_norm (lv' := [(0, .ref n0), (1, .int (iI q)), (2, .int (iI rb)), (3, .int (iI kd)), (4, .int (iI w)), (5, .int (iI left))]) (st' := [.int (iI (kd - 2))]) (ws' := [(n0, oX12 th dp my sm st sz mo ms yb hpk pkr rt rk rx hsh si gt va vn wd wa re ua pkk pxx bp mk bi pl2 cd2 rn rch rtn rdp rki rea rby rsh), (st, aI x.g 2400 B), (rea, aI x.g 800 rd), (rby, aI x.g 4 cb), (rki, aI x.g 2 (zup ki q kd))]) [3, 4, 5, 2, 1, 0] [0, 1, 2, 3, 4] rfl rfl (by decide) rfl ?_
        exact J135 (kd - 2) cd2 pl2 ⟨by rw [foreR_f (by omega)] at hcf2; exact hcf2, h16.2.1, h16.2.2, by omega, fun _ => rfl, fun z => z⟩
    · skip
      have hb1 : kd = 1 → contI Rb cd2 (valsR B sz left rn.toNat 0 pl2 (fun t => rd (400 * q + t))) := fun z => by (have y := hcb; rw [body_1 z] at y; exact y)
      have hb0 : kd = 0 → contI Rb cd2 (likeR B sz left pl2) := fun z => by (have y := hcb; rw [body_0 z] at y; exact y)
      refine j_iconst jb dX12_readRow_45 ?_
      refine j_istore (lv' := [(6, .int (iI 0)), (5, .int (iI left)), (4, .int (iI w)), (3, .int (iI kd)), (0, .ref n0), (1, .int (iI q)), (2, .int (iI rb))]) jb dX12_readRow_46 (by decide) rfl ?_
      have L48 : ∀ (fu : Nat) (i cd3 pl3 : Int) (rd3 : Int → Int), ((0 ≤ i ∧ i ≤ rn) ∧ (0 ≤ cd3 ∧ cd3 ≤ 20) ∧ (0 ≤ pl3 ∧ pl3 ≤ 8 * sz) ∧ (kd = 1 → contI Rb cd3 (valsR B sz left (rn - i).toNat i pl3 (fun t => rd3 (400 * q + t)))) ∧ (kd = 0 → lkI B sz cd2 pl2 left i cd3 pl3 (fun t => rd3 (400 * q + t))) ∧ (cd3 = 0 → cd2 = 0 ∧ fitOn (fun t => rd3 (400 * q + t)) left i) ∧ (∀ j, (j < 400 * q ∨ 400 * q + 400 ≤ j) → rd3 j = rd j)) → (rn - i).toNat < fu → JW x 0 0 48 [(0, .ref n0), (1, .int (iI q)), (2, .int (iI rb)), (3, .int (iI kd)), (4, .int (iI w)), (5, .int (iI left)), (6, .int (iI i))] [] [(n0, oX12 th dp my sm st sz mo ms yb hpk pkr rt rk rx hsh si gt va vn wd wa re ua pkk pxx bp mk bi pl3 cd3 rn rch rtn rdp rki rea rby rsh), (st, aI x.g 2400 B), (rea, aI x.g 800 rd3), (rby, aI x.g 4 cb), (rki, aI x.g 2 (zup ki q kd))] := by
        intro fu
        induction fu with
        | zero => intro i cd3 pl3 rd3 _ hm; exact absurd hm (by omega)
        | succ fu ih =>
          intro i cd3 pl3 rd3 ⟨hi1, hi2, hi3, hi4, hi5, hi6, hi7⟩ hm48
          have ih48 := ih
          clear ih
          refine j_iload jb dX12_readRow_48 6 rfl ?_
          refine j_aload_n jb dX12_readRow_50 0 rfl ?_
          refine j_get jb f_X12_224 dX12_readRow_51 0 rfl rfl ?_
          refine j_icmp_ge (tgt := 112) jb dX12_readRow_54 (by decide) (by omega) (by omega) (fun c_54 => ?_) (fun c_54 => ?_)
          · skip
            refine j_goto (tgt := 250) jb dX12_readRow_112 (by decide) ?_
            refine j_norm (lv' := [(0, .ref n0), (1, .int (iI q)), (2, .int (iI rb)), (3, .int (iI kd)), (4, .int (iI w)), (5, .int (iI left))]) (st' := []) (ws' := [(n0, oX12 th dp my sm st sz mo ms yb hpk pkr rt rk rx hsh si gt va vn wd wa re ua pkk pxx bp mk bi pl3 cd3 rn rch rtn rdp rki rea rby rsh), (st, aI x.g 2400 B), (rea, aI x.g 800 rd3), (rby, aI x.g 4 cb), (rki, aI x.g 2 (zup ki q kd))]) [0, 1, 2, 3, 4, 5] [0, 1, 2, 3, 4] rfl rfl (by decide) rfl ?_
            exact J250 rsh cd3 pl3 rd3 cb ⟨(by rcases (show kd = 0 ∨ kd = 1 by omega) with e | e; { exact lk_end (hb0 e) (hi5 e) hn.1 (by omega) }; { (by_cases z : cd3 = 0); { exact isRn_of (cI_end (valsR_0 (hi4 e) (by omega))) (eqR_same _ _) }; { exact isRn_bad (hi4 e) z } }), hi2, hi3, fun z => ⟨(hi6 z).1, by rw [show rn = i by omega]; exact (hi6 z).2⟩, hi7, hcf, hrs⟩
          · skip
            refine j_aload_n jb dX12_readRow_57 0 rfl ?_
            refine j_get jb f_X12_202 dX12_readRow_58 0 rfl rfl ?_
            refine j_if_ne (tgt := 112) jb dX12_readRow_61 (by decide) (by omega) (fun c_61 => ?_) (fun c_61 => ?_)
            · skip
              refine j_goto (tgt := 250) jb dX12_readRow_112 (by decide) ?_
              refine j_norm (lv' := [(0, .ref n0), (1, .int (iI q)), (2, .int (iI rb)), (3, .int (iI kd)), (4, .int (iI w)), (5, .int (iI left))]) (st' := []) (ws' := [(n0, oX12 th dp my sm st sz mo ms yb hpk pkr rt rk rx hsh si gt va vn wd wa re ua pkk pxx bp mk bi pl3 cd3 rn rch rtn rdp rki rea rby rsh), (st, aI x.g 2400 B), (rea, aI x.g 800 rd3), (rby, aI x.g 4 cb), (rki, aI x.g 2 (zup ki q kd))]) [0, 1, 2, 3, 4, 5] [0, 1, 2, 3, 4] rfl rfl (by decide) rfl ?_
              exact J250 rsh cd3 pl3 rd3 cb ⟨(by rcases (show kd = 0 ∨ kd = 1 by omega) with e | e; { exact lk_end (hb0 e) (hi5 e) hn.1 (by omega) }; { (by_cases z : cd3 = 0); { exact isRn_of (cI_end (valsR_0 (hi4 e) (by omega))) (eqR_same _ _) }; { exact isRn_bad (hi4 e) z } }), hi2, hi3, fun z => ⟨(hi6 z).1, by rw [show rn = i by omega]; exact (hi6 z).2⟩, hi7, hcf, hrs⟩
            · skip
              refine j_aload_n jb dX12_readRow_64 0 rfl ?_
              refine j_get jb f_X12_63 dX12_readRow_65 0 rfl rfl ?_
              refine j_sipush jb dX12_readRow_68 (by decide) ?_
              refine j_iload_n jb dX12_readRow_71 1 rfl ?_
              refine j_imul jb dX12_readRow_72 ?_
              refine j_iload jb dX12_readRow_73 6 rfl ?_
              refine j_iadd jb dX12_readRow_75 ?_
              refine j_iload_n jb dX12_readRow_76 3 rfl ?_
              refine j_if_ne (tgt := 98) jb dX12_readRow_77 (by decide) (by omega) (fun c_77 => ?_) (fun c_77 => ?_)
              · skip
                refine j_aload_n jb dX12_readRow_98 0 rfl ?_
                refine j_iload jb dX12_readRow_99 5 rfl ?_
                refine j_callV (wr := [(rea, aI x.g 800 rd3), (rby, aI x.g 4 cb), (rki, aI x.g 2 (zup ki q kd))]) jb k_X12_signed i_X12_signed s_X12_signed l_X12_227 (C_X12_signed x.l x.g n0 my sm st yb pkr rt rk rx si gt va re ua mk rki rea rby th dp sz mo ms hpk hsh vn wd wa pkk pxx bp bi pl3 cd3 rn rch rtn rdp rsh left B (by omega) hB (by omega) (by omega) (by omega)) 0 14 rfl rfl rfl [0, 1] [2, 3, 4] (by decide) rfl rfl (by decide) (by decide) rfl rfl (Nat.le_of_ble_eq_true rfl) (by decide) dX12_readRow_101 (fun v w hp => ?_)
                obtain ⟨s1, q1, cd4, pl4, rfl, rfl, h101⟩ := hp
                refine j_norm (lv' := [(0, .ref n0), (1, .int (iI q)), (2, .int (iI rb)), (3, .int (iI kd)), (4, .int (iI w)), (5, .int (iI left)), (6, .int (iI i))]) (st' := [.long (lI s1), .int (iI ((400 * q) + i)), .ref rea]) (ws' := [(n0, oX12 th dp my sm st sz mo ms yb hpk pkr rt rk rx hsh si gt va vn wd wa re ua pkk pxx bp mk bi pl4 cd4 rn rch rtn rdp rki rea rby rsh), (st, aI x.g 2400 B), (rea, aI x.g 800 rd3), (rby, aI x.g 4 cb), (rki, aI x.g 2 (zup ki q kd))]) [0, 1, 2, 3, 4, 5, 6] [3, 4, 0, 1, 2] rfl rfl (by decide) rfl ?_
                have hfs : fit s1 left := by (rw [h101.1]; exact sgn_fit (by omega))
                refine j_l2i jb dX12_readRow_104 ?_
                refine j_iast (ws' := [(n0, oX12 th dp my sm st sz mo ms yb hpk pkr rt rk rx hsh si gt va vn wd wa re ua pkk pxx bp mk bi pl4 cd4 rn rch rtn rdp rki rea rby rsh), (st, aI x.g 2400 B), (rea, aI x.g 800 (zup rd3 ((400 * q) + i) s1)), (rby, aI x.g 4 cb), (rki, aI x.g 2 (zup ki q kd))]) jb dX12_readRow_105 2 rfl (by omega) (by decide) rfl ?_
                refine j_iinc (lv' := [(6, .int (iI (i + 1))), (0, .ref n0), (1, .int (iI q)), (2, .int (iI rb)), (3, .int (iI kd)), (4, .int (iI w)), (5, .int (iI left))]) jb dX12_readRow_106 6 rfl (by decide) rfl ?_
                refine j_goto (tgt := 48) jb dX12_readRow_109 (by decide) ?_
                refine j_norm (lv' := [(0, .ref n0), (1, .int (iI q)), (2, .int (iI rb)), (3, .int (iI kd)), (4, .int (iI w)), (5, .int (iI left)), (6, .int (iI (i + 1)))]) (st' := []) (ws' := [(n0, oX12 th dp my sm st sz mo ms yb hpk pkr rt rk rx hsh si gt va vn wd wa re ua pkk pxx bp mk bi pl4 cd4 rn rch rtn rdp rki rea rby rsh), (st, aI x.g 2400 B), (rea, aI x.g 800 (zup rd3 ((400 * q) + i) s1)), (rby, aI x.g 4 cb), (rki, aI x.g 2 (zup ki q kd))]) [1, 2, 3, 4, 5, 6, 0] [0, 1, 2, 3, 4] rfl rfl (by decide) rfl ?_
                exact ih48 (i + 1) cd4 pl4 (zup rd3 ((400 * q) + i) s1) (by first | (have z : (fun t => zup rd3 (400 * q + i) s1 (400 * q + t)) = zup (fun t => rd3 (400 * q + t)) i s1 := sh_up; exact ⟨by omega, h101.2.2.1, h101.2.2.2, fun e => by rw [z, h101.1]; exact valsM_step (hi4 e) (by omega) h101.2.1, fun e => by rw [z]; (rcases hi5 e with y | y; { refine Or.inr ⟨by omega, q1, by rw [← y.2.1, ← y.2.2]; exact h101.2.1, fun j a b => ?_⟩; rw [show j = i by omega, zup_s]; exact h101.1 }; { exact absurd y.1 (by omega) }), fun e => ⟨(hi6 (rdM_st h101.2.1 e).1).1, by rw [z]; exact fitOn_up (hi6 (rdM_st h101.2.1 e).1).2 hfs⟩, fun j a => by rw [zup_n (by omega)]; exact hi7 j a⟩) | (have z : (fun t => zup rd3 (400 * q + i) (rd3 (400 * q)) (400 * q + t)) = zup (fun t => rd3 (400 * q + t)) i (rd3 (400 * q)) := sh_up; have z0 : rd3 (400 * q) = (fun t => rd3 (400 * q + t)) 0 := (by show _ = rd3 (400 * q + 0); rw [Int.add_zero]); exact ⟨by omega, hi2, hi3, fun e => by omega, fun e => by rw [z, z0]; (rcases hi5 e with y | y; { exact absurd y.1 (by omega) }; { obtain ⟨r0, y2, y3⟩ := y.2; refine Or.inr ⟨by omega, r0, y2, fun j a b => ?_⟩; (by_cases w9 : j = i); { rw [w9, zup_s]; exact y3 0 (by decide) (by omega) }; { rw [zup_n w9]; exact y3 j a (by omega) } }), fun e => ⟨(hi6 e).1, by rw [z, z0]; exact fitOn_up (hi6 e).2 ((hi6 e).2 0 (by decide) (by omega))⟩, fun j a => by rw [zup_n (by omega)]; exact hi7 j a⟩)) (by omega)
              · skip
                refine j_iload jb dX12_readRow_80 6 rfl ?_
                refine j_if_le (tgt := 98) jb dX12_readRow_82 (by decide) (by omega) (fun c_82 => ?_) (fun c_82 => ?_)
                · skip
                  refine j_aload_n jb dX12_readRow_98 0 rfl ?_
                  refine j_iload jb dX12_readRow_99 5 rfl ?_
                  refine j_callV (wr := [(rea, aI x.g 800 rd3), (rby, aI x.g 4 cb), (rki, aI x.g 2 (zup ki q kd))]) jb k_X12_signed i_X12_signed s_X12_signed l_X12_227 (C_X12_signed x.l x.g n0 my sm st yb pkr rt rk rx si gt va re ua mk rki rea rby th dp sz mo ms hpk hsh vn wd wa pkk pxx bp bi pl3 cd3 rn rch rtn rdp rsh left B (by omega) hB (by omega) (by omega) (by omega)) 0 14 rfl rfl rfl [0, 1] [2, 3, 4] (by decide) rfl rfl (by decide) (by decide) rfl rfl (Nat.le_of_ble_eq_true rfl) (by decide) dX12_readRow_101 (fun v w hp => ?_)
                  obtain ⟨s1, q1, cd4, pl4, rfl, rfl, h101⟩ := hp
                  refine j_norm (lv' := [(0, .ref n0), (1, .int (iI q)), (2, .int (iI rb)), (3, .int (iI kd)), (4, .int (iI w)), (5, .int (iI left)), (6, .int (iI i))]) (st' := [.long (lI s1), .int (iI ((400 * q) + i)), .ref rea]) (ws' := [(n0, oX12 th dp my sm st sz mo ms yb hpk pkr rt rk rx hsh si gt va vn wd wa re ua pkk pxx bp mk bi pl4 cd4 rn rch rtn rdp rki rea rby rsh), (st, aI x.g 2400 B), (rea, aI x.g 800 rd3), (rby, aI x.g 4 cb), (rki, aI x.g 2 (zup ki q kd))]) [0, 1, 2, 3, 4, 5, 6] [3, 4, 0, 1, 2] rfl rfl (by decide) rfl ?_
                  have hfs : fit s1 left := by (rw [h101.1]; exact sgn_fit (by omega))
                  refine j_l2i jb dX12_readRow_104 ?_
                  refine j_iast (ws' := [(n0, oX12 th dp my sm st sz mo ms yb hpk pkr rt rk rx hsh si gt va vn wd wa re ua pkk pxx bp mk bi pl4 cd4 rn rch rtn rdp rki rea rby rsh), (st, aI x.g 2400 B), (rea, aI x.g 800 (zup rd3 ((400 * q) + i) s1)), (rby, aI x.g 4 cb), (rki, aI x.g 2 (zup ki q kd))]) jb dX12_readRow_105 2 rfl (by omega) (by decide) rfl ?_
                  refine j_iinc (lv' := [(6, .int (iI (i + 1))), (0, .ref n0), (1, .int (iI q)), (2, .int (iI rb)), (3, .int (iI kd)), (4, .int (iI w)), (5, .int (iI left))]) jb dX12_readRow_106 6 rfl (by decide) rfl ?_
                  refine j_goto (tgt := 48) jb dX12_readRow_109 (by decide) ?_
                  refine j_norm (lv' := [(0, .ref n0), (1, .int (iI q)), (2, .int (iI rb)), (3, .int (iI kd)), (4, .int (iI w)), (5, .int (iI left)), (6, .int (iI (i + 1)))]) (st' := []) (ws' := [(n0, oX12 th dp my sm st sz mo ms yb hpk pkr rt rk rx hsh si gt va vn wd wa re ua pkk pxx bp mk bi pl4 cd4 rn rch rtn rdp rki rea rby rsh), (st, aI x.g 2400 B), (rea, aI x.g 800 (zup rd3 ((400 * q) + i) s1)), (rby, aI x.g 4 cb), (rki, aI x.g 2 (zup ki q kd))]) [1, 2, 3, 4, 5, 6, 0] [0, 1, 2, 3, 4] rfl rfl (by decide) rfl ?_
                  exact ih48 (i + 1) cd4 pl4 (zup rd3 ((400 * q) + i) s1) (by first | (have z : (fun t => zup rd3 (400 * q + i) s1 (400 * q + t)) = zup (fun t => rd3 (400 * q + t)) i s1 := sh_up; exact ⟨by omega, h101.2.2.1, h101.2.2.2, fun e => by rw [z, h101.1]; exact valsM_step (hi4 e) (by omega) h101.2.1, fun e => by rw [z]; (rcases hi5 e with y | y; { refine Or.inr ⟨by omega, q1, by rw [← y.2.1, ← y.2.2]; exact h101.2.1, fun j a b => ?_⟩; rw [show j = i by omega, zup_s]; exact h101.1 }; { exact absurd y.1 (by omega) }), fun e => ⟨(hi6 (rdM_st h101.2.1 e).1).1, by rw [z]; exact fitOn_up (hi6 (rdM_st h101.2.1 e).1).2 hfs⟩, fun j a => by rw [zup_n (by omega)]; exact hi7 j a⟩) | (have z : (fun t => zup rd3 (400 * q + i) (rd3 (400 * q)) (400 * q + t)) = zup (fun t => rd3 (400 * q + t)) i (rd3 (400 * q)) := sh_up; have z0 : rd3 (400 * q) = (fun t => rd3 (400 * q + t)) 0 := (by show _ = rd3 (400 * q + 0); rw [Int.add_zero]); exact ⟨by omega, hi2, hi3, fun e => by omega, fun e => by rw [z, z0]; (rcases hi5 e with y | y; { exact absurd y.1 (by omega) }; { obtain ⟨r0, y2, y3⟩ := y.2; refine Or.inr ⟨by omega, r0, y2, fun j a b => ?_⟩; (by_cases w9 : j = i); { rw [w9, zup_s]; exact y3 0 (by decide) (by omega) }; { rw [zup_n w9]; exact y3 j a (by omega) } }), fun e => ⟨(hi6 e).1, by rw [z, z0]; exact fitOn_up (hi6 e).2 ((hi6 e).2 0 (by decide) (by omega))⟩, fun j a => by rw [zup_n (by omega)]; exact hi7 j a⟩)) (by omega)
                · skip
                  refine j_aload_n jb dX12_readRow_85 0 rfl ?_
                  refine j_get jb f_X12_63 dX12_readRow_86 0 rfl rfl ?_
                  refine j_sipush jb dX12_readRow_89 (by decide) ?_
                  refine j_iload_n jb dX12_readRow_92 1 rfl ?_
                  refine j_imul jb dX12_readRow_93 ?_
                  refine j_iald jb dX12_readRow_94 2 rfl (by omega) (by decide) ?_
                  refine j_goto (tgt := 105) jb dX12_readRow_95 (by decide) ?_
                  refine j_iast (ws' := [(n0, oX12 th dp my sm st sz mo ms yb hpk pkr rt rk rx hsh si gt va vn wd wa re ua pkk pxx bp mk bi pl3 cd3 rn rch rtn rdp rki rea rby rsh), (st, aI x.g 2400 B), (rea, aI x.g 800 (zup rd3 ((400 * q) + i) (rd3 (400 * q)))), (rby, aI x.g 4 cb), (rki, aI x.g 2 (zup ki q kd))]) jb dX12_readRow_105 2 rfl (by omega) (by decide) rfl ?_
                  refine j_iinc (lv' := [(6, .int (iI (i + 1))), (0, .ref n0), (1, .int (iI q)), (2, .int (iI rb)), (3, .int (iI kd)), (4, .int (iI w)), (5, .int (iI left))]) jb dX12_readRow_106 6 rfl (by decide) rfl ?_
                  refine j_goto (tgt := 48) jb dX12_readRow_109 (by decide) ?_
                  refine j_norm (lv' := [(0, .ref n0), (1, .int (iI q)), (2, .int (iI rb)), (3, .int (iI kd)), (4, .int (iI w)), (5, .int (iI left)), (6, .int (iI (i + 1)))]) (st' := []) (ws' := [(n0, oX12 th dp my sm st sz mo ms yb hpk pkr rt rk rx hsh si gt va vn wd wa re ua pkk pxx bp mk bi pl3 cd3 rn rch rtn rdp rki rea rby rsh), (st, aI x.g 2400 B), (rea, aI x.g 800 (zup rd3 ((400 * q) + i) (rd3 (400 * q)))), (rby, aI x.g 4 cb), (rki, aI x.g 2 (zup ki q kd))]) [1, 2, 3, 4, 5, 6, 0] [0, 1, 2, 3, 4] rfl rfl (by decide) rfl ?_
                  exact ih48 (i + 1) cd3 pl3 (zup rd3 ((400 * q) + i) (rd3 (400 * q))) (by first | (have z : (fun t => zup rd3 (400 * q + i) s1 (400 * q + t)) = zup (fun t => rd3 (400 * q + t)) i s1 := sh_up; exact ⟨by omega, h101.2.2.1, h101.2.2.2, fun e => by rw [z, h101.1]; exact valsM_step (hi4 e) (by omega) h101.2.1, fun e => by rw [z]; (rcases hi5 e with y | y; { refine Or.inr ⟨by omega, q1, by rw [← y.2.1, ← y.2.2]; exact h101.2.1, fun j a b => ?_⟩; rw [show j = i by omega, zup_s]; exact h101.1 }; { exact absurd y.1 (by omega) }), fun e => ⟨(hi6 (rdM_st h101.2.1 e).1).1, by rw [z]; exact fitOn_up (hi6 (rdM_st h101.2.1 e).1).2 hfs⟩, fun j a => by rw [zup_n (by omega)]; exact hi7 j a⟩) | (have z : (fun t => zup rd3 (400 * q + i) (rd3 (400 * q)) (400 * q + t)) = zup (fun t => rd3 (400 * q + t)) i (rd3 (400 * q)) := sh_up; have z0 : rd3 (400 * q) = (fun t => rd3 (400 * q + t)) 0 := (by show _ = rd3 (400 * q + 0); rw [Int.add_zero]); exact ⟨by omega, hi2, hi3, fun e => by omega, fun e => by rw [z, z0]; (rcases hi5 e with y | y; { exact absurd y.1 (by omega) }; { obtain ⟨r0, y2, y3⟩ := y.2; refine Or.inr ⟨by omega, r0, y2, fun j a b => ?_⟩; (by_cases w9 : j = i); { rw [w9, zup_s]; exact y3 0 (by decide) (by omega) }; { rw [zup_n w9]; exact y3 j a (by omega) } }), fun e => ⟨(hi6 e).1, by rw [z, z0]; exact fitOn_up (hi6 e).2 ((hi6 e).2 0 (by decide) (by omega))⟩, fun j a => by rw [zup_n (by omega)]; exact hi7 j a⟩)) (by omega)
      refine j_norm (lv' := [(0, .ref n0), (1, .int (iI q)), (2, .int (iI rb)), (3, .int (iI kd)), (4, .int (iI w)), (5, .int (iI left)), (6, .int (iI 0))]) (st' := []) (ws' := [(n0, oX12 th dp my sm st sz mo ms yb hpk pkr rt rk rx hsh si gt va vn wd wa re ua pkk pxx bp mk bi pl2 cd2 rn rch rtn rdp rki rea rby rsh), (st, aI x.g 2400 B), (rea, aI x.g 800 rd), (rby, aI x.g 4 cb), (rki, aI x.g 2 (zup ki q kd))]) [4, 5, 6, 3, 2, 1, 0] [0, 1, 2, 3, 4] rfl rfl (by decide) rfl ?_
      exact L48 _ 0 cd2 pl2 rd ⟨by omega, h16.2.1, h16.2.2, fun z => by rw [Int.sub_zero]; exact hb1 z, fun _ => Or.inl ⟨rfl, rfl, rfl⟩, fun z => ⟨z, fun j a b => by omega⟩, fun _ _ => rfl⟩ (Nat.lt_succ_self _)
  · skip
    refine j_aload_n jb dX12_readRow_28 2 rfl ?_
    refine j_iconst jb dX12_readRow_29 ?_
    refine j_callV (wr := [(st, aI x.g 2400 B), (rea, aI x.g 800 rd), (rby, aI x.g 4 cb), (rki, aI x.g 2 (zup ki q kd))]) jb k_X12_wrong i_X12_wrong s_X12_wrong l_X12_208 (C_X12_wrong x.l x.g n0 my sm st yb pkr rt rk rx si gt va re ua mk rki rea rby th dp sz mo ms hpk hsh vn wd wa pkk pxx bp bi pl2 cd2 rn rch rtn rdp rsh 4 (by omega)) 0 14 rfl rfl rfl [0] [1, 2, 3, 4] (by decide) rfl rfl (by decide) (by decide) rfl rfl (Nat.le_of_ble_eq_true rfl) (by decide) dX12_readRow_30 (fun v w hp => ?_)
    obtain ⟨cd3, rfl, rfl, h30⟩ := hp
    refine j_norm (lv' := [(4, .int (iI w)), (3, .int (iI kd)), (0, .ref n0), (1, .int (iI q)), (2, .int (iI rb))]) (st' := []) (ws' := [(n0, oX12 th dp my sm st sz mo ms yb hpk pkr rt rk rx hsh si gt va vn wd wa re ua pkk pxx bp mk bi pl2 cd3 rn rch rtn rdp rki rea rby rsh), (st, aI x.g 2400 B), (rea, aI x.g 800 rd), (rby, aI x.g 4 cb), (rki, aI x.g 2 (zup ki q kd))]) [0, 1, 2, 3, 4] [4, 0, 1, 2, 3] rfl rfl (by decide) rfl ?_
    have hcz : ¬ cd3 = 0 := fun z => absurd (flt_0 h30 (by decide) z).1 (by decide)
    refine j_norm (lv' := []) (st' := []) (ws' := [(n0, oX12 th dp my sm st sz mo ms yb hpk pkr rt rk rx hsh si gt va vn wd wa re ua pkk pxx bp mk bi pl2 cd3 rn rch rtn rdp rki rea rby rsh), (st, aI x.g 2400 B), (rea, aI x.g 800 rd), (rby, aI x.g 4 cb), (rki, aI x.g 2 (zup ki q kd))]) [] [0, 1, 2, 3, 4] rfl rfl (by decide) rfl ?_
    exact j_vret jb jr dX12_readRow_33 ⟨_, _, _, _, _, _, rfl, rfl, (by rw [← hR0]; exact ⟨isRn_bad (cI_flt hc2 h30 (by decide) (Or.inl ⟨by decide, by omega⟩)) hcz, flt_in h30 h16.2.1 (by decide), h16.2.2, hcf, hrs, by omega, fun z => absurd z hcz, fun _ _ => rfl⟩)⟩

set_option maxHeartbeats 4000000 in
set_option maxRecDepth 100000 in
theorem C_X12_untwist (l : Launch) (g : GG) (n0 my sm st yb pkr rt rk rx si gt va re ua mk rki rea rby : Nat) (th dp sz mo ms hpk hsh vn wd wa pkk pxx bp bi pl cd rn rch rtn rdp rsh : Int) (rd : Int → Int) (hcd : cd = 0) (hn : 1 ≤ rn ∧ rn ≤ 400) (hdp : 1 ≤ rdp ∧ rdp ≤ 16) (htn : 1 ≤ rtn ∧ rtn ≤ 3) (hv : ∀ j, 0 ≤ j → j < rn → (-65536 ≤ rd j ∧ rd j ≤ 65536) ∧ (-65536 ≤ rd (400 + j) ∧ rd (400 + j) ≤ 65536)) : Ctr l g yX12_untwist cX12_untwist 6 none 2 60 0 0 [.ref n0] [(n0, oX12 th dp my sm st sz mo ms yb hpk pkr rt rk rx hsh si gt va vn wd wa re ua pkk pxx bp mk bi pl cd rn rch rtn rdp rki rea rby rsh), (rea, aI g 800 rd)] (fun vv ww => ∃ (cd2 : Int) (rd2 : Int → Int), vv = none ∧ ww = [(n0, oX12 th dp my sm st sz mo ms yb hpk pkr rt rk rx hsh si gt va vn wd wa re ua pkk pxx bp mk bi pl cd2 rn rch rtn rdp rki rea rby rsh), (rea, aI g 800 rd2)] ∧ (∀ j, 0 ≤ j → j < rn → rd2 j = utA rtn (rd j) (rd (400 + j)) ∧ rd2 (400 + j) = utB rtn (rd j) (rd (400 + j))) ∧ ((cd2 = 0 ∧ uok rtn rdp rd (fun t => rd (400 + t)) rn.toNat = true) ∨ (cd2 = 11 ∧ ¬ uok rtn rdp rd (fun t => rd (400 + t)) rn.toNat = true))) := by
  refine Ctr.of [(0, .ref n0)] (by decide) (Nat.le_of_ble_eq_true rfl) rfl ?_
  intro x hxl hxg jb jr hin
  subst hxl; subst hxg
  refine j_iconst jb dX12_untwist_0 ?_
  refine j_istore_n (lv' := [(1, .int (iI 0)), (0, .ref n0)]) jb dX12_untwist_1 rfl (by decide) rfl ?_
  have L2 : ∀ (fu : Nat) (i cd1 : Int) (rd1 : Int → Int), ((0 ≤ i ∧ i ≤ rn) ∧ (∀ j, 0 ≤ j → j < i → rd1 j = utA rtn (rd j) (rd (400 + j)) ∧ rd1 (400 + j) = utB rtn (rd j) (rd (400 + j))) ∧ (∀ j, i ≤ j → j < 400 → rd1 j = rd j ∧ rd1 (400 + j) = rd (400 + j)) ∧ ((cd1 = 0 ∧ uok rtn rdp rd (fun t => rd (400 + t)) i.toNat = true) ∨ (cd1 = 11 ∧ ¬ uok rtn rdp rd (fun t => rd (400 + t)) rn.toNat = true))) → (rn - i).toNat < fu → JW x 0 0 2 [(0, .ref n0), (1, .int (iI i))] [] [(n0, oX12 th dp my sm st sz mo ms yb hpk pkr rt rk rx hsh si gt va vn wd wa re ua pkk pxx bp mk bi pl cd1 rn rch rtn rdp rki rea rby rsh), (rea, aI x.g 800 rd1)] := by
    intro fu
    induction fu with
    | zero => intro i cd1 rd1 _ hm; exact absurd hm (by omega)
    | succ fu ih =>
      intro i cd1 rd1 ⟨hi1, hi2, hi3, hi4⟩ hm2
      have ih2 := ih
      clear ih
      refine j_iload_n jb dX12_untwist_2 1 rfl ?_
      refine j_aload_n jb dX12_untwist_3 0 rfl ?_
      refine j_get jb f_X12_224 dX12_untwist_4 0 rfl rfl ?_
      refine j_icmp_ge (tgt := 164) jb dX12_untwist_7 (by decide) (by omega) (by omega) (fun c_7 => ?_) (fun c_7 => ?_)
      · skip
        refine j_norm (lv' := []) (st' := []) (ws' := [(n0, oX12 th dp my sm st sz mo ms yb hpk pkr rt rk rx hsh si gt va vn wd wa re ua pkk pxx bp mk bi pl cd1 rn rch rtn rdp rki rea rby rsh), (rea, aI x.g 800 rd1)]) [] [0, 1] rfl rfl (by decide) rfl ?_
        exact j_vret jb jr dX12_untwist_164 ⟨_, _, rfl, rfl, ⟨fun j a b => hi2 j a (by omega), by rw [show rn = i by omega] at hi4 ⊢; exact hi4⟩⟩
      · skip
        refine j_aload_n jb dX12_untwist_10 0 rfl ?_
        refine j_get jb f_X12_63 dX12_untwist_11 0 rfl rfl ?_
        refine j_iload_n jb dX12_untwist_14 1 rfl ?_
        refine j_iald jb dX12_untwist_15 1 rfl (by omega) (by decide) ?_
        refine j_topi (rd i) (hi3 i (Int.le_refl _) (by omega)).1 ?_
        refine j_istore_n (lv' := [(2, .int (iI (rd i))), (0, .ref n0), (1, .int (iI i))]) jb dX12_untwist_16 rfl (by decide) rfl ?_
        refine j_aload_n jb dX12_untwist_17 1 rfl ?_
        refine j_get jb f_X12_63 dX12_untwist_18 0 rfl rfl ?_
        refine j_sipush jb dX12_untwist_21 (by decide) ?_
        refine j_iload_n jb dX12_untwist_24 2 rfl ?_
        refine j_iadd jb dX12_untwist_25 ?_
        refine j_iald jb dX12_untwist_26 1 rfl (by omega) (by decide) ?_
        refine j_topi (rd (400 + i)) (hi3 i (Int.le_refl _) (by omega)).2 ?_
        refine j_istore_n (lv' := [(3, .int (iI (rd (400 + i)))), (2, .int (iI (rd i))), (0, .ref n0), (1, .int (iI i))]) jb dX12_untwist_27 rfl (by decide) rfl ?_
        have hvi := hv i hi1.1 (by omega)
        refine j_aload_n jb dX12_untwist_28 2 rfl ?_
        refine j_get jb f_X12_244 dX12_untwist_29 0 rfl rfl ?_
        refine j_iconst jb dX12_untwist_32 ?_
        have J65 : ∀ (aa : Int), (aa = (utA rtn (rd i) (rd (400 + i))) ∧ (-200000 ≤ aa ∧ aa ≤ 200000)) → JW x 0 0 65 [(0, .ref n0), (1, .int (iI i)), (2, .int (iI (rd i))), (3, .int (iI (rd (400 + i))))] [.int (iI aa)] [(n0, oX12 th dp my sm st sz mo ms yb hpk pkr rt rk rx hsh si gt va vn wd wa re ua pkk pxx bp mk bi pl cd1 rn rch rtn rdp rki rea rby rsh), (rea, aI x.g 800 rd1)] := by
          intro aa haa
          refine j_istore (lv' := [(4, .int (iI aa)), (0, .ref n0), (1, .int (iI i)), (2, .int (iI (rd i))), (3, .int (iI (rd (400 + i))))]) jb dX12_untwist_65 (by decide) rfl ?_
          refine j_aload_n jb dX12_untwist_67 1 rfl ?_
          refine j_get jb f_X12_244 dX12_untwist_68 0 rfl rfl ?_
          refine j_iconst jb dX12_untwist_71 ?_
          have J104 : ∀ (bb : Int), (bb = (utB rtn (rd i) (rd (400 + i))) ∧ (-200000 ≤ bb ∧ bb ≤ 200000)) → JW x 0 0 104 [(0, .ref n0), (1, .int (iI i)), (2, .int (iI (rd i))), (3, .int (iI (rd (400 + i)))), (4, .int (iI aa))] [.int (iI bb)] [(n0, oX12 th dp my sm st sz mo ms yb hpk pkr rt rk rx hsh si gt va vn wd wa re ua pkk pxx bp mk bi pl cd1 rn rch rtn rdp rki rea rby rsh), (rea, aI x.g 800 rd1)] := by
            intro bb hbb
            refine j_istore (lv' := [(5, .int (iI bb)), (0, .ref n0), (1, .int (iI i)), (2, .int (iI (rd i))), (3, .int (iI (rd (400 + i)))), (4, .int (iI aa))]) jb dX12_untwist_104 (by decide) rfl ?_
            refine j_iload jb dX12_untwist_106 5 rfl ?_
            refine j_i2l jb dX12_untwist_108 (by omega) ?_
            refine j_aload_n jb dX12_untwist_109 1 rfl ?_
            refine j_get jb f_X12_247 dX12_untwist_110 0 rfl rfl ?_
            refine j_callS (wr := [(n0, oX12 th dp my sm st sz mo ms yb hpk pkr rt rk rx hsh si gt va vn wd wa re ua pkk pxx bp mk bi pl cd1 rn rch rtn rdp rki rea rby rsh), (rea, aI x.g 800 rd1)]) jb k_X12_fits t_X12_fits l_X12_78 (C_X12_fits x.l x.g aa rdp (by omega) (by omega)) [] [0, 1] (by decide) rfl rfl (by decide) (by decide) rfl rfl (Nat.le_of_ble_eq_true rfl) (by decide) dX12_untwist_113 (fun v w hp => ?_)
            obtain ⟨rfl, rfl⟩ := hp
            refine j_norm (lv' := [(5, .int (iI bb)), (0, .ref n0), (1, .int (iI i)), (2, .int (iI (rd i))), (3, .int (iI (rd (400 + i)))), (4, .int (iI aa))]) (st' := [.int (iI (b2i (fit aa rdp)))]) (ws' := [(n0, oX12 th dp my sm st sz mo ms yb hpk pkr rt rk rx hsh si gt va vn wd wa re ua pkk pxx bp mk bi pl cd1 rn rch rtn rdp rki rea rby rsh), (rea, aI x.g 800 rd1)]) [0, 1, 2, 3, 4, 5] [0, 1] rfl rfl (by decide) rfl ?_
            have J138 : ∀ (cd3 : Int), ((cd3 = 0 ∧ uok rtn rdp rd (fun t => rd (400 + t)) (i + 1).toNat = true) ∨ (cd3 = 11 ∧ ¬ uok rtn rdp rd (fun t => rd (400 + t)) rn.toNat = true)) → JW x 0 0 138 [(0, .ref n0), (1, .int (iI i)), (2, .int (iI (rd i))), (3, .int (iI (rd (400 + i)))), (4, .int (iI aa)), (5, .int (iI bb))] [] [(n0, oX12 th dp my sm st sz mo ms yb hpk pkr rt rk rx hsh si gt va vn wd wa re ua pkk pxx bp mk bi pl cd3 rn rch rtn rdp rki rea rby rsh), (rea, aI x.g 800 rd1)] := by
              intro cd3 hc3
              refine j_aload_n jb dX12_untwist_138 0 rfl ?_
              refine j_get jb f_X12_63 dX12_untwist_139 0 rfl rfl ?_
              refine j_iload_n jb dX12_untwist_142 1 rfl ?_
              refine j_iload jb dX12_untwist_143 4 rfl ?_
              refine j_iast (ws' := [(n0, oX12 th dp my sm st sz mo ms yb hpk pkr rt rk rx hsh si gt va vn wd wa re ua pkk pxx bp mk bi pl cd3 rn rch rtn rdp rki rea rby rsh), (rea, aI x.g 800 (zup rd1 i aa))]) jb dX12_untwist_145 1 rfl (by omega) (by decide) rfl ?_
              refine j_aload_n jb dX12_untwist_146 0 rfl ?_
              refine j_get jb f_X12_63 dX12_untwist_147 0 rfl rfl ?_
              refine j_sipush jb dX12_untwist_150 (by decide) ?_
              refine j_iload_n jb dX12_untwist_153 1 rfl ?_
              refine j_iadd jb dX12_untwist_154 ?_
              refine j_iload jb dX12_untwist_155 5 rfl ?_
              refine j_iast (ws' := [(n0, oX12 th dp my sm st sz mo ms yb hpk pkr rt rk rx hsh si gt va vn wd wa re ua pkk pxx bp mk bi pl cd3 rn rch rtn rdp rki rea rby rsh), (rea, aI x.g 800 (zup (zup rd1 i aa) (400 + i) bb))]) jb dX12_untwist_157 1 rfl (by omega) (by decide) rfl ?_
              refine j_iinc (lv' := [(1, .int (iI (i + 1))), (0, .ref n0), (2, .int (iI (rd i))), (3, .int (iI (rd (400 + i)))), (4, .int (iI aa)), (5, .int (iI bb))]) jb dX12_untwist_158 1 rfl (by decide) rfl ?_
              refine j_goto (tgt := 2) jb dX12_untwist_161 (by decide) ?_
              refine j_norm (lv' := [(0, .ref n0), (1, .int (iI (i + 1)))]) (st' := []) (ws' := [(n0, oX12 th dp my sm st sz mo ms yb hpk pkr rt rk rx hsh si gt va vn wd wa re ua pkk pxx bp mk bi pl cd3 rn rch rtn rdp rki rea rby rsh), (rea, aI x.g 800 (zup (zup rd1 i aa) (400 + i) bb))]) [1, 0] [0, 1] rfl rfl (by decide) rfl ?_
              exact ih2 (i + 1) cd3 (zup (zup rd1 i aa) (400 + i) bb) ⟨by omega, fun j a b => by (by_cases e : j = i); { rw [e, zup_n (by omega), zup_s, zup_s]; exact ⟨haa.1, hbb.1⟩ }; { rw [zup_n (by omega), zup_n (by omega), zup_n (by omega), zup_n (by omega)]; exact hi2 j a (by omega) }, fun j a b => by rw [zup_n (by omega), zup_n (by omega), zup_n (by omega), zup_n (by omega)]; exact hi3 j (by omega) b, hc3⟩ (by omega)
            refine j_ifb_eq (tgt := 132) jb dX12_untwist_116 (by decide) (fun c_116 => ?_) (fun c_116 => ?_)
            · skip
              refine j_aload_n jb dX12_untwist_132 1 rfl ?_
              refine j_bipush jb dX12_untwist_133 (by decide) ?_
              refine j_callV (wr := [(rea, aI x.g 800 rd1)]) jb k_X12_wrong i_X12_wrong s_X12_wrong l_X12_208 (C_X12_wrong x.l x.g n0 my sm st yb pkr rt rk rx si gt va re ua mk rki rea rby th dp sz mo ms hpk hsh vn wd wa pkk pxx bp bi pl cd1 rn rch rtn rdp rsh 11 (by omega)) 0 14 rfl rfl rfl [0] [1] (by decide) rfl rfl (by decide) (by decide) rfl rfl (Nat.le_of_ble_eq_true rfl) (by decide) dX12_untwist_135 (fun v w hp => ?_)
              obtain ⟨cd5, rfl, rfl, h135⟩ := hp
              refine j_norm (lv' := [(5, .int (iI bb)), (0, .ref n0), (1, .int (iI i)), (2, .int (iI (rd i))), (3, .int (iI (rd (400 + i)))), (4, .int (iI aa))]) (st' := []) (ws' := [(n0, oX12 th dp my sm st sz mo ms yb hpk pkr rt rk rx hsh si gt va vn wd wa re ua pkk pxx bp mk bi pl cd5 rn rch rtn rdp rki rea rby rsh), (rea, aI x.g 800 rd1)]) [0, 1, 2, 3, 4, 5] [1, 0] rfl rfl (by decide) rfl ?_
              refine j_norm (lv' := [(0, .ref n0), (1, .int (iI i)), (2, .int (iI (rd i))), (3, .int (iI (rd (400 + i)))), (4, .int (iI aa)), (5, .int (iI bb))]) (st' := []) (ws' := [(n0, oX12 th dp my sm st sz mo ms yb hpk pkr rt rk rx hsh si gt va vn wd wa re ua pkk pxx bp mk bi pl cd5 rn rch rtn rdp rki rea rby rsh), (rea, aI x.g 800 rd1)]) [1, 2, 3, 4, 5, 0] [0, 1] rfl rfl (by decide) rfl ?_
              exact J138 cd5 (by have hno : ¬ (fit (utA rtn (rd i) (rd (400 + i))) rdp ∧ fit (utB rtn (rd i) (rd (400 + i))) rdp) := (fun z => by first | exact c_116 (by rw [haa.1]; exact z.1) | exact c_129 (by rw [hbb.1]; exact z.2)); refine Or.inr ⟨?_, uok_no (f := rd) (g := fun t => rd (400 + t)) hi1.1 hno rn.toNat (by omega)⟩; rw [h135, ← flt_yes]; rcases hi4 with z | z; { rw [if_pos z.1] }; { rw [if_neg (by omega)]; exact z.1 })
            · skip
              refine j_iload jb dX12_untwist_119 0 rfl ?_
              refine j_i2l jb dX12_untwist_121 (by omega) ?_
              refine j_aload_n jb dX12_untwist_122 1 rfl ?_
              refine j_get jb f_X12_247 dX12_untwist_123 0 rfl rfl ?_
              refine j_callS (wr := [(n0, oX12 th dp my sm st sz mo ms yb hpk pkr rt rk rx hsh si gt va vn wd wa re ua pkk pxx bp mk bi pl cd1 rn rch rtn rdp rki rea rby rsh), (rea, aI x.g 800 rd1)]) jb k_X12_fits t_X12_fits l_X12_78 (C_X12_fits x.l x.g bb rdp (by omega) (by omega)) [] [0, 1] (by decide) rfl rfl (by decide) (by decide) rfl rfl (Nat.le_of_ble_eq_true rfl) (by decide) dX12_untwist_126 (fun v w hp => ?_)
              obtain ⟨rfl, rfl⟩ := hp
              refine j_norm (lv' := [(5, .int (iI bb)), (0, .ref n0), (1, .int (iI i)), (2, .int (iI (rd i))), (3, .int (iI (rd (400 + i)))), (4, .int (iI aa))]) (st' := [.int (iI (b2i (fit bb rdp)))]) (ws' := [(n0, oX12 th dp my sm st sz mo ms yb hpk pkr rt rk rx hsh si gt va vn wd wa re ua pkk pxx bp mk bi pl cd1 rn rch rtn rdp rki rea rby rsh), (rea, aI x.g 800 rd1)]) [0, 1, 2, 3, 4, 5] [0, 1] rfl rfl (by decide) rfl ?_
              refine j_ifb_ne (tgt := 138) jb dX12_untwist_129 (by decide) (fun c_129 => ?_) (fun c_129 => ?_)
              · skip
                refine j_norm (lv' := [(0, .ref n0), (1, .int (iI i)), (2, .int (iI (rd i))), (3, .int (iI (rd (400 + i)))), (4, .int (iI aa)), (5, .int (iI bb))]) (st' := []) (ws' := [(n0, oX12 th dp my sm st sz mo ms yb hpk pkr rt rk rx hsh si gt va vn wd wa re ua pkk pxx bp mk bi pl cd1 rn rch rtn rdp rki rea rby rsh), (rea, aI x.g 800 rd1)]) [1, 2, 3, 4, 5, 0] [0, 1] rfl rfl (by decide) rfl ?_
                exact J138 cd1 (by rcases hi4 with z | z; { exact Or.inl ⟨z.1, uok_next hi1.1 z.2 (by rw [← haa.1]; exact c_116) (by rw [← hbb.1]; exact c_129)⟩ }; { exact Or.inr z })
              · skip
                refine j_aload_n jb dX12_untwist_132 1 rfl ?_
                refine j_bipush jb dX12_untwist_133 (by decide) ?_
                refine j_callV (wr := [(rea, aI x.g 800 rd1)]) jb k_X12_wrong i_X12_wrong s_X12_wrong l_X12_208 (C_X12_wrong x.l x.g n0 my sm st yb pkr rt rk rx si gt va re ua mk rki rea rby th dp sz mo ms hpk hsh vn wd wa pkk pxx bp bi pl cd1 rn rch rtn rdp rsh 11 (by omega)) 0 14 rfl rfl rfl [0] [1] (by decide) rfl rfl (by decide) (by decide) rfl rfl (Nat.le_of_ble_eq_true rfl) (by decide) dX12_untwist_135 (fun v w hp => ?_)
                obtain ⟨cd5, rfl, rfl, h135⟩ := hp
                refine j_norm (lv' := [(5, .int (iI bb)), (0, .ref n0), (1, .int (iI i)), (2, .int (iI (rd i))), (3, .int (iI (rd (400 + i)))), (4, .int (iI aa))]) (st' := []) (ws' := [(n0, oX12 th dp my sm st sz mo ms yb hpk pkr rt rk rx hsh si gt va vn wd wa re ua pkk pxx bp mk bi pl cd5 rn rch rtn rdp rki rea rby rsh), (rea, aI x.g 800 rd1)]) [0, 1, 2, 3, 4, 5] [1, 0] rfl rfl (by decide) rfl ?_
                refine j_norm (lv' := [(0, .ref n0), (1, .int (iI i)), (2, .int (iI (rd i))), (3, .int (iI (rd (400 + i)))), (4, .int (iI aa)), (5, .int (iI bb))]) (st' := []) (ws' := [(n0, oX12 th dp my sm st sz mo ms yb hpk pkr rt rk rx hsh si gt va vn wd wa re ua pkk pxx bp mk bi pl cd5 rn rch rtn rdp rki rea rby rsh), (rea, aI x.g 800 rd1)]) [1, 2, 3, 4, 5, 0] [0, 1] rfl rfl (by decide) rfl ?_
                exact J138 cd5 (by have hno : ¬ (fit (utA rtn (rd i) (rd (400 + i))) rdp ∧ fit (utB rtn (rd i) (rd (400 + i))) rdp) := (fun z => by first | exact c_116 (by rw [haa.1]; exact z.1) | exact c_129 (by rw [hbb.1]; exact z.2)); refine Or.inr ⟨?_, uok_no (f := rd) (g := fun t => rd (400 + t)) hi1.1 hno rn.toNat (by omega)⟩; rw [h135, ← flt_yes]; rcases hi4 with z | z; { rw [if_pos z.1] }; { rw [if_neg (by omega)]; exact z.1 })
          refine j_icmp_ne (tgt := 81) jb dX12_untwist_72 (by decide) (by omega) (by omega) (fun c_72 => ?_) (fun c_72 => ?_)
          · skip
            refine j_aload_n jb dX12_untwist_81 1 rfl ?_
            refine j_get jb f_X12_244 dX12_untwist_82 0 rfl rfl ?_
            refine j_iconst jb dX12_untwist_85 ?_
            refine j_icmp_ne (tgt := 93) jb dX12_untwist_86 (by decide) (by omega) (by omega) (fun c_86 => ?_) (fun c_86 => ?_)
            · skip
              refine j_iconst jb dX12_untwist_93 ?_
              refine j_iload_n jb dX12_untwist_94 3 rfl ?_
              refine j_imul jb dX12_untwist_95 ?_
              refine j_iload_n jb dX12_untwist_96 4 rfl ?_
              refine j_iconst jb dX12_untwist_97 ?_
              refine j_iand jb dX12_untwist_98 ?_
              refine j_topi (rd (400 + i) % 2) (zAnd_1 _) ?_
              refine j_iadd jb dX12_untwist_99 ?_
              refine j_iload_n jb dX12_untwist_100 4 rfl ?_
              refine j_isub jb dX12_untwist_101 ?_
              refine j_iconst jb dX12_untwist_102 ?_
              refine j_ishr jb dX12_untwist_103 (by omega) (by decide) ?_
              refine j_norm (lv' := [(0, .ref n0), (1, .int (iI i)), (2, .int (iI (rd i))), (3, .int (iI (rd (400 + i)))), (4, .int (iI aa))]) (st' := [.int (iI ((((2 * (rd i)) + (rd (400 + i) % 2)) - (rd (400 + i))) / 2 ^ (1 : Int).toNat))]) (ws' := [(n0, oX12 th dp my sm st sz mo ms yb hpk pkr rt rk rx hsh si gt va vn wd wa re ua pkk pxx bp mk bi pl cd1 rn rch rtn rdp rki rea rby rsh), (rea, aI x.g 800 rd1)]) [1, 2, 3, 4, 0] [0, 1] rfl rfl (by decide) rfl ?_
              exact J104 ((((2 * (rd i)) + (rd (400 + i) % 2)) - (rd (400 + i))) / 2 ^ (1 : Int).toNat) (by unfold utB; first | (rw [if_neg (by omega), if_pos (by omega)]; omega) | (rw [if_neg (by omega), if_neg (by omega), if_pos (by omega)]; omega) | (rw [if_neg (by omega), if_neg (by omega), if_neg (by omega), p1]; omega))
            · skip
              refine j_iload_n jb dX12_untwist_89 4 rfl ?_
              refine j_goto (tgt := 104) jb dX12_untwist_90 (by decide) ?_
              refine j_norm (lv' := [(0, .ref n0), (1, .int (iI i)), (2, .int (iI (rd i))), (3, .int (iI (rd (400 + i)))), (4, .int (iI aa))]) (st' := [.int (iI (rd (400 + i)))]) (ws' := [(n0, oX12 th dp my sm st sz mo ms yb hpk pkr rt rk rx hsh si gt va vn wd wa re ua pkk pxx bp mk bi pl cd1 rn rch rtn rdp rki rea rby rsh), (rea, aI x.g 800 rd1)]) [1, 2, 3, 4, 0] [0, 1] rfl rfl (by decide) rfl ?_
              exact J104 (rd (400 + i)) (by unfold utB; first | (rw [if_neg (by omega), if_pos (by omega)]; omega) | (rw [if_neg (by omega), if_neg (by omega), if_pos (by omega)]; omega) | (rw [if_neg (by omega), if_neg (by omega), if_neg (by omega), p1]; omega))
          · skip
            refine j_iload_n jb dX12_untwist_75 3 rfl ?_
            refine j_iload_n jb dX12_untwist_76 4 rfl ?_
            refine j_isub jb dX12_untwist_77 ?_
            refine j_goto (tgt := 104) jb dX12_untwist_78 (by decide) ?_
            refine j_norm (lv' := [(0, .ref n0), (1, .int (iI i)), (2, .int (iI (rd i))), (3, .int (iI (rd (400 + i)))), (4, .int (iI aa))]) (st' := [.int (iI ((rd i) - (rd (400 + i))))]) (ws' := [(n0, oX12 th dp my sm st sz mo ms yb hpk pkr rt rk rx hsh si gt va vn wd wa re ua pkk pxx bp mk bi pl cd1 rn rch rtn rdp rki rea rby rsh), (rea, aI x.g 800 rd1)]) [1, 2, 3, 4, 0] [0, 1] rfl rfl (by decide) rfl ?_
            exact J104 ((rd i) - (rd (400 + i))) (by unfold utB; first | (rw [if_neg (by omega), if_pos (by omega)]; omega) | (rw [if_neg (by omega), if_neg (by omega), if_pos (by omega)]; omega) | (rw [if_neg (by omega), if_neg (by omega), if_neg (by omega), p1]; omega))
        refine j_icmp_ne (tgt := 40) jb dX12_untwist_33 (by decide) (by omega) (by omega) (fun c_33 => ?_) (fun c_33 => ?_)
        · skip
          refine j_aload_n jb dX12_untwist_40 2 rfl ?_
          refine j_get jb f_X12_244 dX12_untwist_41 0 rfl rfl ?_
          refine j_iconst jb dX12_untwist_44 ?_
          refine j_icmp_ne (tgt := 54) jb dX12_untwist_45 (by decide) (by omega) (by omega) (fun c_45 => ?_) (fun c_45 => ?_)
          · skip
            refine j_iconst jb dX12_untwist_54 ?_
            refine j_iload_n jb dX12_untwist_55 1 rfl ?_
            refine j_imul jb dX12_untwist_56 ?_
            refine j_iload_n jb dX12_untwist_57 0 rfl ?_
            refine j_iconst jb dX12_untwist_58 ?_
            refine j_iand jb dX12_untwist_59 ?_
            refine j_topi (rd (400 + i) % 2) (zAnd_1 _) ?_
            refine j_iadd jb dX12_untwist_60 ?_
            refine j_iload_n jb dX12_untwist_61 0 rfl ?_
            refine j_iadd jb dX12_untwist_62 ?_
            refine j_iconst jb dX12_untwist_63 ?_
            refine j_ishr jb dX12_untwist_64 (by omega) (by decide) ?_
            refine j_norm (lv' := [(0, .ref n0), (1, .int (iI i)), (2, .int (iI (rd i))), (3, .int (iI (rd (400 + i))))]) (st' := [.int (iI ((((2 * (rd i)) + (rd (400 + i) % 2)) + (rd (400 + i))) / 2 ^ (1 : Int).toNat))]) (ws' := [(n0, oX12 th dp my sm st sz mo ms yb hpk pkr rt rk rx hsh si gt va vn wd wa re ua pkk pxx bp mk bi pl cd1 rn rch rtn rdp rki rea rby rsh), (rea, aI x.g 800 rd1)]) [2, 3, 1, 0] [0, 1] rfl rfl (by decide) rfl ?_
            exact J65 ((((2 * (rd i)) + (rd (400 + i) % 2)) + (rd (400 + i))) / 2 ^ (1 : Int).toNat) (by unfold utA; first | (rw [if_neg (by omega), if_pos (by omega)]; omega) | (rw [if_neg (by omega), if_neg (by omega), if_pos (by omega)]; omega) | (rw [if_neg (by omega), if_neg (by omega), if_neg (by omega)]; refine ⟨rfl, ?_⟩; rw [p1]; omega))
          · skip
            refine j_iload_n jb dX12_untwist_48 1 rfl ?_
            refine j_iload_n jb dX12_untwist_49 0 rfl ?_
            refine j_iadd jb dX12_untwist_50 ?_
            refine j_goto (tgt := 65) jb dX12_untwist_51 (by decide) ?_
            refine j_norm (lv' := [(0, .ref n0), (1, .int (iI i)), (2, .int (iI (rd i))), (3, .int (iI (rd (400 + i))))]) (st' := [.int (iI ((rd i) + (rd (400 + i))))]) (ws' := [(n0, oX12 th dp my sm st sz mo ms yb hpk pkr rt rk rx hsh si gt va vn wd wa re ua pkk pxx bp mk bi pl cd1 rn rch rtn rdp rki rea rby rsh), (rea, aI x.g 800 rd1)]) [2, 3, 1, 0] [0, 1] rfl rfl (by decide) rfl ?_
            exact J65 ((rd i) + (rd (400 + i))) (by unfold utA; first | (rw [if_neg (by omega), if_pos (by omega)]; omega) | (rw [if_neg (by omega), if_neg (by omega), if_pos (by omega)]; omega) | (rw [if_neg (by omega), if_neg (by omega), if_neg (by omega)]; refine ⟨rfl, ?_⟩; rw [p1]; omega))
        · skip
          refine j_iload_n jb dX12_untwist_36 1 rfl ?_
          refine j_goto (tgt := 65) jb dX12_untwist_37 (by decide) ?_
          refine j_norm (lv' := [(0, .ref n0), (1, .int (iI i)), (2, .int (iI (rd i))), (3, .int (iI (rd (400 + i))))]) (st' := [.int (iI (rd i))]) (ws' := [(n0, oX12 th dp my sm st sz mo ms yb hpk pkr rt rk rx hsh si gt va vn wd wa re ua pkk pxx bp mk bi pl cd1 rn rch rtn rdp rki rea rby rsh), (rea, aI x.g 800 rd1)]) [2, 3, 1, 0] [0, 1] rfl rfl (by decide) rfl ?_
          exact J65 (rd i) (by unfold utA; first | (rw [if_neg (by omega), if_pos (by omega)]; omega) | (rw [if_neg (by omega), if_neg (by omega), if_pos (by omega)]; omega) | (rw [if_neg (by omega), if_neg (by omega), if_neg (by omega)]; refine ⟨rfl, ?_⟩; rw [p1]; omega))
  refine j_norm (lv' := [(0, .ref n0), (1, .int (iI 0))]) (st' := []) (ws' := [(n0, oX12 th dp my sm st sz mo ms yb hpk pkr rt rk rx hsh si gt va vn wd wa re ua pkk pxx bp mk bi pl cd rn rch rtn rdp rki rea rby rsh), (rea, aI x.g 800 rd)]) [1, 0] [0, 1] rfl rfl (by decide) rfl ?_
  exact L2 _ 0 cd rd ⟨by omega, fun j a b => by omega, fun _ _ _ => ⟨rfl, rfl⟩, Or.inl ⟨hcd, rfl⟩⟩ (Nat.lt_succ_self _)

