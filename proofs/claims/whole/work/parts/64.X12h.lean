set_option maxHeartbeats 4000000 in
set_option maxRecDepth 100000 in
theorem C_X12_openAt (l : Launch) (g : GG) (n0 my sm st yb pkr rt rk rx si gt va re ua mk rki rea rby : Nat) (th dp sz mo ms hpk hsh vn wd wa pkk pxx bp bi pl cd rn rch rtn rdp rsh : Int) (ap : Int) (B rd cb ki : Int → Int) (hB : isBytes B) (hl : 0 ≤ sz ∧ sz ≤ 2400) (hap : 0 ≤ ap ∧ ap < sz) (hcf : cfOk cb) (hrs : 0 ≤ rsh ∧ rsh ≤ 15) : Ctr l g yX12_openAt cX12_openAt 4 (some .int) 7 270 0 0 [.ref n0, .int (iI ap)] [(n0, oX12 th dp my sm st sz mo ms yb hpk pkr rt rk rx hsh si gt va vn wd wa re ua pkk pxx bp mk bi pl cd rn rch rtn rdp rki rea rby rsh), (st, aI g 2400 B), (rea, aI g 800 rd), (rby, aI g 4 cb), (rki, aI g 2 ki)] (fun vv ww => ∃ (cd2 pl2 rn2 rch2 rtn2 rdp2 rs2 : Int) (rd2 cb2 ki2 : Int → Int), vv = some (.int (iI cd2)) ∧ ww = [(n0, oX12 th dp my sm st sz mo ms yb hpk pkr rt rk rx hsh si gt va vn wd wa re ua pkk pxx bp mk bi pl2 cd2 rn2 rch2 rtn2 rdp2 rki rea rby rs2), (st, aI g 2400 B), (rea, aI g 800 rd2), (rby, aI g 4 cb2), (rki, aI g 2 ki2)] ∧ isF (frR B sz ap) cd2 rn2 rch2 rtn2 rdp2 (ki2 0) (if rch2 = 2 then ki2 1 else -1) (pl2 / 8) rd2 (fun t => rd2 (400 + t)) ∧ (0 ≤ cd2 ∧ cd2 ≤ 20) ∧ (0 ≤ pl2 ∧ pl2 ≤ 8 * sz) ∧ cfOk cb2 ∧ (0 ≤ rs2 ∧ rs2 ≤ 15) ∧ (cd2 = 0 → (1 ≤ rn2 ∧ rn2 ≤ 400) ∧ (rch2 = 1 ∨ rch2 = 2) ∧ (0 ≤ rtn2 ∧ rtn2 ≤ 3) ∧ (1 ≤ rdp2 ∧ rdp2 ≤ 16) ∧ (rch2 = 1 → rtn2 = 0) ∧ (ap < pl2 / 8 ∧ pl2 / 8 ≤ sz) ∧ fitOn rd2 rdp2 rn2 ∧ (rch2 = 2 → fitOn (fun t => rd2 (400 + t)) rdp2 rn2))) := by
  refine Ctr.of [(0, .ref n0), (1, .int (iI ap))] (by decide) (Nat.le_of_ble_eq_true rfl) rfl ?_
  intro x hxl hxg jb jr hin
  subst hxl; subst hxg
  obtain ⟨R0, hR0⟩ : ∃ R : Int × FB, R = (frR B sz ap) := ⟨_, rfl⟩
  have hc0 : contI R0 0 (frR B sz ap) := cI_0 rfl hR0
  rw [frR_e] at hc0
  refine j_aload_n jb dX12_openAt_0 0 rfl ?_
  refine j_bipush jb dX12_openAt_1 (by decide) ?_
  refine j_iload_n jb dX12_openAt_3 1 rfl ?_
  refine j_imul jb dX12_openAt_4 ?_
  refine j_put (ws' := [(n0, oX12 th dp my sm st sz mo ms yb hpk pkr rt rk rx hsh si gt va vn wd wa re ua pkk pxx bp mk bi (8 * ap) cd rn rch rtn rdp rki rea rby rsh), (st, aI x.g 2400 B), (rea, aI x.g 800 rd), (rby, aI x.g 4 cb), (rki, aI x.g 2 ki)]) jb f_X12_205 w_X12_28 rfl dX12_openAt_5 0 rfl rfl rfl (Nat.le_of_ble_eq_true rfl) rfl ?_
  refine j_aload_n jb dX12_openAt_8 0 rfl ?_
  refine j_iconst jb dX12_openAt_9 ?_
  refine j_put (ws' := [(n0, oX12 th dp my sm st sz mo ms yb hpk pkr rt rk rx hsh si gt va vn wd wa re ua pkk pxx bp mk bi (8 * ap) 0 rn rch rtn rdp rki rea rby rsh), (st, aI x.g 2400 B), (rea, aI x.g 800 rd), (rby, aI x.g 4 cb), (rki, aI x.g 2 ki)]) jb f_X12_202 w_X12_29 rfl dX12_openAt_10 0 rfl rfl rfl (Nat.le_of_ble_eq_true rfl) rfl ?_
  refine j_aload_n jb dX12_openAt_13 0 rfl ?_
  refine j_aload_n jb dX12_openAt_14 0 rfl ?_
  refine j_bipush jb dX12_openAt_15 (by decide) ?_
  refine j_callV (wr := [(rea, aI x.g 800 rd), (rby, aI x.g 4 cb), (rki, aI x.g 2 ki)]) jb k_X12_number i_X12_number s_X12_number l_X12_214 (C_X12_number x.l x.g n0 my sm st yb pkr rt rk rx si gt va re ua mk rki rea rby th dp sz mo ms hpk hsh vn wd wa pkk pxx bp bi (8 * ap) 0 rn rch rtn rdp rsh 9 B (by decide) hB (by omega) (by decide) (by omega)) 0 14 rfl rfl rfl [0, 1] [2, 3, 4] (by decide) rfl rfl (by decide) (by decide) rfl rfl (Nat.le_of_ble_eq_true rfl) (by decide) dX12_openAt_17 (fun v w hp => ?_)
  obtain ⟨a9, cd1, pl1, rfl, rfl, h17⟩ := hp
  refine j_norm (lv' := [(0, .ref n0), (1, .int (iI ap))]) (st' := [.long (lI a9), .ref n0]) (ws' := [(n0, oX12 th dp my sm st sz mo ms yb hpk pkr rt rk rx hsh si gt va vn wd wa re ua pkk pxx bp mk bi pl1 cd1 rn rch rtn rdp rki rea rby rsh), (st, aI x.g 2400 B), (rea, aI x.g 800 rd), (rby, aI x.g 4 cb), (rki, aI x.g 2 ki)]) [0, 1] [3, 4, 0, 1, 2] rfl rfl (by decide) rfl ?_
  have ha9 : 0 ≤ a9 ∧ a9 < 512 := h17.1.2.2.2.1
  have hc17 := cM_get (f := fun a p => fltR (400 < 1 + a) 2 (hdA B sz (frF B sz ap) a p)) hc0 h17.1
  refine j_l2i jb dX12_openAt_20 ?_
  refine j_iconst jb dX12_openAt_21 ?_
  refine j_iadd jb dX12_openAt_22 ?_
  refine j_put (ws' := [(n0, oX12 th dp my sm st sz mo ms yb hpk pkr rt rk rx hsh si gt va vn wd wa re ua pkk pxx bp mk bi pl1 cd1 (a9 + 1) rch rtn rdp rki rea rby rsh), (st, aI x.g 2400 B), (rea, aI x.g 800 rd), (rby, aI x.g 4 cb), (rki, aI x.g 2 ki)]) jb f_X12_224 w_X12_30 rfl dX12_openAt_23 0 rfl rfl rfl (Nat.le_of_ble_eq_true rfl) rfl ?_
  refine j_aload_n jb dX12_openAt_26 0 rfl ?_
  refine j_get jb f_X12_224 dX12_openAt_27 0 rfl rfl ?_
  refine j_sipush jb dX12_openAt_30 (by decide) ?_
  have J41 : ∀ (cd2 : Int), (contI R0 cd2 (hdA B sz (frF B sz ap) a9 pl1) ∧ (0 ≤ cd2 ∧ cd2 ≤ 20) ∧ (cd2 = 0 → a9 + 1 ≤ 400 ∧ cd1 = 0)) → JW x 0 0 41 [(0, .ref n0), (1, .int (iI ap))] [] [(n0, oX12 th dp my sm st sz mo ms yb hpk pkr rt rk rx hsh si gt va vn wd wa re ua pkk pxx bp mk bi pl1 cd2 (a9 + 1) rch rtn rdp rki rea rby rsh), (st, aI x.g 2400 B), (rea, aI x.g 800 rd), (rby, aI x.g 4 cb), (rki, aI x.g 2 ki)] := by
    intro cd2 hja
    refine j_aload_n jb dX12_openAt_41 0 rfl ?_
    refine j_aload_n jb dX12_openAt_42 0 rfl ?_
    refine j_callV (wr := [(rea, aI x.g 800 rd), (rby, aI x.g 4 cb), (rki, aI x.g 2 ki)]) jb k_X12_bit i_X12_bit s_X12_bit l_X12_211 (C_X12_bit x.l x.g n0 my sm st yb pkr rt rk rx si gt va re ua mk rki rea rby th dp sz mo ms hpk hsh vn wd wa pkk pxx bp bi pl1 cd2 (a9 + 1) rch rtn rdp rsh B hB (by omega) (by omega) (by omega)) 0 14 rfl rfl rfl [0, 1] [2, 3, 4] (by decide) rfl rfl (by decide) (by decide) rfl rfl (Nat.le_of_ble_eq_true rfl) (by decide) dX12_openAt_43 (fun v w hp => ?_)
    obtain ⟨c9, cd3, pl3, rfl, rfl, h43⟩ := hp
    refine j_norm (lv' := [(0, .ref n0), (1, .int (iI ap))]) (st' := [.int (iI c9), .ref n0]) (ws' := [(n0, oX12 th dp my sm st sz mo ms yb hpk pkr rt rk rx hsh si gt va vn wd wa re ua pkk pxx bp mk bi pl3 cd3 (a9 + 1) rch rtn rdp rki rea rby rsh), (st, aI x.g 2400 B), (rea, aI x.g 800 rd), (rby, aI x.g 4 cb), (rki, aI x.g 2 ki)]) [0, 1] [3, 4, 0, 1, 2] rfl rfl (by decide) rfl ?_
    have hc9 := rdB_in h43
    have h43f := rdB_fa h43
    have h43m := rdM_1 h17.2.2.2 h43
    have hc43 := cM_get (f := fun c p2 => hdC B sz (frF B sz ap) a9 c p2) hja.1 h43m
    refine j_iconst jb dX12_openAt_46 ?_
    refine j_iadd jb dX12_openAt_47 ?_
    refine j_put (ws' := [(n0, oX12 th dp my sm st sz mo ms yb hpk pkr rt rk rx hsh si gt va vn wd wa re ua pkk pxx bp mk bi pl3 cd3 (a9 + 1) (c9 + 1) rtn rdp rki rea rby rsh), (st, aI x.g 2400 B), (rea, aI x.g 800 rd), (rby, aI x.g 4 cb), (rki, aI x.g 2 ki)]) jb f_X12_241 w_X12_31 rfl dX12_openAt_48 0 rfl rfl rfl (Nat.le_of_ble_eq_true rfl) rfl ?_
    refine j_aload_n jb dX12_openAt_51 0 rfl ?_
    refine j_aload_n jb dX12_openAt_52 0 rfl ?_
    refine j_iconst jb dX12_openAt_53 ?_
    refine j_callV (wr := [(rea, aI x.g 800 rd), (rby, aI x.g 4 cb), (rki, aI x.g 2 ki)]) jb k_X12_number i_X12_number s_X12_number l_X12_214 (C_X12_number x.l x.g n0 my sm st yb pkr rt rk rx si gt va re ua mk rki rea rby th dp sz mo ms hpk hsh vn wd wa pkk pxx bp bi pl3 cd3 (a9 + 1) (c9 + 1) rtn rdp rsh 2 B (by decide) hB (by omega) (by omega) (by omega)) 0 14 rfl rfl rfl [0, 1] [2, 3, 4] (by decide) rfl rfl (by decide) (by decide) rfl rfl (Nat.le_of_ble_eq_true rfl) (by decide) dX12_openAt_54 (fun v w hp => ?_)
    obtain ⟨t9, cd4, pl4, rfl, rfl, h54⟩ := hp
    refine j_norm (lv' := [(0, .ref n0), (1, .int (iI ap))]) (st' := [.long (lI t9), .ref n0]) (ws' := [(n0, oX12 th dp my sm st sz mo ms yb hpk pkr rt rk rx hsh si gt va vn wd wa re ua pkk pxx bp mk bi pl4 cd4 (a9 + 1) (c9 + 1) rtn rdp rki rea rby rsh), (st, aI x.g 2400 B), (rea, aI x.g 800 rd), (rby, aI x.g 4 cb), (rki, aI x.g 2 ki)]) [0, 1] [3, 4, 0, 1, 2] rfl rfl (by decide) rfl ?_
    have ht9 : 0 ≤ t9 ∧ t9 < 4 := h54.1.2.2.2.1
    have hc54 := cM_get (f := fun t p3 => fltR (1 + c9 = 1 ∧ ¬ t = 0) 3 (hdD B sz (frF B sz ap) a9 c9 t p3)) hc43 h54.1
    refine j_l2i jb dX12_openAt_57 ?_
    refine j_put (ws' := [(n0, oX12 th dp my sm st sz mo ms yb hpk pkr rt rk rx hsh si gt va vn wd wa re ua pkk pxx bp mk bi pl4 cd4 (a9 + 1) (c9 + 1) t9 rdp rki rea rby rsh), (st, aI x.g 2400 B), (rea, aI x.g 800 rd), (rby, aI x.g 4 cb), (rki, aI x.g 2 ki)]) jb f_X12_244 w_X12_32 rfl dX12_openAt_58 0 rfl rfl rfl (Nat.le_of_ble_eq_true rfl) rfl ?_
    refine j_aload_n jb dX12_openAt_61 0 rfl ?_
    refine j_get jb f_X12_241 dX12_openAt_62 0 rfl rfl ?_
    refine j_iconst jb dX12_openAt_65 ?_
    have J81 : ∀ (cd5 : Int), (contI R0 cd5 (hdD B sz (frF B sz ap) a9 c9 t9 pl4) ∧ (0 ≤ cd5 ∧ cd5 ≤ 20) ∧ (cd5 = 0 → (c9 + 1 = 1 → t9 = 0) ∧ cd4 = 0)) → JW x 0 0 81 [(0, .ref n0), (1, .int (iI ap))] [] [(n0, oX12 th dp my sm st sz mo ms yb hpk pkr rt rk rx hsh si gt va vn wd wa re ua pkk pxx bp mk bi pl4 cd5 (a9 + 1) (c9 + 1) t9 rdp rki rea rby rsh), (st, aI x.g 2400 B), (rea, aI x.g 800 rd), (rby, aI x.g 4 cb), (rki, aI x.g 2 ki)] := by
      intro cd5 hjb
      refine j_aload_n jb dX12_openAt_81 0 rfl ?_
      refine j_aload_n jb dX12_openAt_82 0 rfl ?_
      refine j_iconst jb dX12_openAt_83 ?_
      refine j_callV (wr := [(rea, aI x.g 800 rd), (rby, aI x.g 4 cb), (rki, aI x.g 2 ki)]) jb k_X12_number i_X12_number s_X12_number l_X12_214 (C_X12_number x.l x.g n0 my sm st yb pkr rt rk rx si gt va re ua mk rki rea rby th dp sz mo ms hpk hsh vn wd wa pkk pxx bp bi pl4 cd5 (a9 + 1) (c9 + 1) t9 rdp rsh 4 B (by decide) hB (by omega) (by omega) (by omega)) 0 14 rfl rfl rfl [0, 1] [2, 3, 4] (by decide) rfl rfl (by decide) (by decide) rfl rfl (Nat.le_of_ble_eq_true rfl) (by decide) dX12_openAt_84 (fun v w hp => ?_)
      obtain ⟨s9, cd6, pl6, rfl, rfl, h84⟩ := hp
      refine j_norm (lv' := [(0, .ref n0), (1, .int (iI ap))]) (st' := [.long (lI s9), .ref n0]) (ws' := [(n0, oX12 th dp my sm st sz mo ms yb hpk pkr rt rk rx hsh si gt va vn wd wa re ua pkk pxx bp mk bi pl6 cd6 (a9 + 1) (c9 + 1) t9 rdp rki rea rby rsh), (st, aI x.g 2400 B), (rea, aI x.g 800 rd), (rby, aI x.g 4 cb), (rki, aI x.g 2 ki)]) [0, 1] [3, 4, 0, 1, 2] rfl rfl (by decide) rfl ?_
      have hs9 : 0 ≤ s9 ∧ s9 < 16 := h84.1.2.2.2.1
      have hc84 := cM_get (f := fun s p4 => (frF B sz ap) (1 + a9) (1 + c9) t9 (1 + s) p4) hjb.1 h84.1
      rw [Int.add_comm 1 a9, Int.add_comm 1 c9, Int.add_comm 1 s9] at hc84
      have hrbF := rbF_is (t := t9) (s9 + 1) (by omega)
      have hrbS := rbS_is (t := t9) (s9 + 1) (by omega)
      have hrbi := rb_in t9 (s9 + 1) (by omega)
      refine j_l2i jb dX12_openAt_87 ?_
      refine j_iconst jb dX12_openAt_88 ?_
      refine j_iadd jb dX12_openAt_89 ?_
      refine j_put (ws' := [(n0, oX12 th dp my sm st sz mo ms yb hpk pkr rt rk rx hsh si gt va vn wd wa re ua pkk pxx bp mk bi pl6 cd6 (a9 + 1) (c9 + 1) t9 (s9 + 1) rki rea rby rsh), (st, aI x.g 2400 B), (rea, aI x.g 800 rd), (rby, aI x.g 4 cb), (rki, aI x.g 2 ki)]) jb f_X12_247 w_X12_33 rfl dX12_openAt_90 0 rfl rfl rfl (Nat.le_of_ble_eq_true rfl) rfl ?_
      have hz6 : cd6 = 0 → a9 + 1 ≤ 400 ∧ (c9 + 1 = 1 → t9 = 0) ∧ pl6 = 8 * ap + 16 := fun z => (by have y1 := rdM_st h84.1 z; have y2 := hjb.2.2 y1.1; have y3 := rdM_st h54.1 y2.2; have y4 := rdM_st h43m y3.1; have y5 := hja.2.2 y4.1; have y6 := rdM_st h17.1 y5.2; exact ⟨y5.1, y2.1, by omega⟩)
      have J176 : ∀ (cdE plE rsE : Int) (rdE cbE kiE : Int → Int), (∃ u0 u1 : Int → Int, contI R0 cdE (endR B sz ap (a9 + 1) (c9 + 1) t9 (s9 + 1) (kiE 0) (if (c9 + 1) = 2 then kiE 1 else -1) plE u0 u1) ∧ (cdE = 0 → cd6 = 0 ∧ 8 * ap + 16 ≤ plE ∧ eqOn rdE u0 0 (a9 + 1) ∧ ((c9 + 1) = 2 → eqOn (fun t => rdE (400 + t)) u1 0 (a9 + 1)) ∧ fitOn rdE (rbF t9 (s9 + 1)) (a9 + 1) ∧ ((c9 + 1) = 2 → fitOn (fun t => rdE (400 + t)) (rbS t9 (s9 + 1)) (a9 + 1))) ∧ (0 ≤ cdE ∧ cdE ≤ 20) ∧ (0 ≤ plE ∧ plE ≤ 8 * sz) ∧ cfOk cbE ∧ (0 ≤ rsE ∧ rsE ≤ 15)) → JW x 0 0 176 [(0, .ref n0), (1, .int (iI ap))] [] [(n0, oX12 th dp my sm st sz mo ms yb hpk pkr rt rk rx hsh si gt va vn wd wa re ua pkk pxx bp mk bi plE cdE (a9 + 1) (c9 + 1) t9 (s9 + 1) rki rea rby rsE), (st, aI x.g 2400 B), (rea, aI x.g 800 rdE), (rby, aI x.g 4 cbE), (rki, aI x.g 2 kiE)] := by
        intro cdE plE rsE rdE cbE kiE ⟨u0, u1, hE1, hE2, hE3, hE4, hE5, hE6⟩
        have hcz : cdE = 0 → a9 + 1 ≤ 400 ∧ (c9 + 1 = 1 → t9 = 0) := fun z => (by have y := hz6 (hE2 z).1; exact ⟨y.1, y.2.1⟩)
        have hEe : cdE = 0 → R0 = (endR B sz ap (a9 + 1) (c9 + 1) t9 (s9 + 1) (kiE 0) (if (c9 + 1) = 2 then kiE 1 else -1) plE u0 u1) := fun z => hE1.1 z
        have L176 : ∀ (fu : Nat) (cdP plP : Int), ((0 ≤ cdP ∧ cdP ≤ 20) ∧ (0 ≤ plP ∧ plP ≤ 8 * sz) ∧ ((cdP = 0 ∧ cdE = 0 ∧ plE ≤ plP ∧ plP ≤ plE + -plE % 8 ∧ num B plE (plP - plE).toNat = 0) ∨ (¬ cdP = 0 ∧ R0.1 = cdP))) → (8 * sz + 1 - plP).toNat < fu → JW x 0 0 176 [(0, .ref n0), (1, .int (iI ap))] [] [(n0, oX12 th dp my sm st sz mo ms yb hpk pkr rt rk rx hsh si gt va vn wd wa re ua pkk pxx bp mk bi plP cdP (a9 + 1) (c9 + 1) t9 (s9 + 1) rki rea rby rsE), (st, aI x.g 2400 B), (rea, aI x.g 800 rdE), (rby, aI x.g 4 cbE), (rki, aI x.g 2 kiE)] := by
          intro fu
          induction fu with
          | zero => intro cdP plP _ hm; exact absurd hm (by omega)
          | succ fu ih =>
            intro cdP plP ⟨hP1, hP2, hP3⟩ hm176
            have ih176 := ih
            clear ih
            refine j_aload_n jb dX12_openAt_176 0 rfl ?_
            refine j_get jb f_X12_202 dX12_openAt_177 0 rfl rfl ?_
            have J210 : (contI R0 cdP (taR B sz ap (a9 + 1) (c9 + 1) t9 (s9 + 1) (kiE 0) (if (c9 + 1) = 2 then kiE 1 else -1) u0 u1 plP) ∧ (cdP = 0 → cdE = 0 ∧ plP % 8 = 0 ∧ plE ≤ plP)) → JW x 0 0 210 [(0, .ref n0), (1, .int (iI ap))] [] [(n0, oX12 th dp my sm st sz mo ms yb hpk pkr rt rk rx hsh si gt va vn wd wa re ua pkk pxx bp mk bi plP cdP (a9 + 1) (c9 + 1) t9 (s9 + 1) rki rea rby rsE), (st, aI x.g 2400 B), (rea, aI x.g 800 rdE), (rby, aI x.g 4 cbE), (rki, aI x.g 2 kiE)] := by
              intro  hjp
              refine j_aload_n jb dX12_openAt_210 0 rfl ?_
              refine j_get jb f_X12_205 dX12_openAt_211 0 rfl rfl ?_
              refine j_bipush jb dX12_openAt_214 (by decide) ?_
              refine j_idiv jb dX12_openAt_216 (by omega) ?_
              refine j_istore_n (lv' := [(2, .int (iI (plP / 8))), (0, .ref n0), (1, .int (iI ap))]) jb dX12_openAt_217 rfl (by decide) rfl ?_
              have hT := hjp.2
              refine j_aload_n jb dX12_openAt_218 1 rfl ?_
              refine j_bipush jb dX12_openAt_219 (by decide) ?_
              refine j_callV (wr := [(rea, aI x.g 800 rdE), (rby, aI x.g 4 cbE), (rki, aI x.g 2 kiE)]) jb k_X12_number i_X12_number s_X12_number l_X12_214 (C_X12_number x.l x.g n0 my sm st yb pkr rt rk rx si gt va re ua mk rki rea rby th dp sz mo ms hpk hsh vn wd wa pkk pxx bp bi plP cdP (a9 + 1) (c9 + 1) t9 (s9 + 1) rsE 8 B (by decide) hB (by omega) (by omega) (by omega)) 0 14 rfl rfl rfl [0, 1] [2, 3, 4] (by decide) rfl rfl (by decide) (by decide) rfl rfl (Nat.le_of_ble_eq_true rfl) (by decide) dX12_openAt_221 (fun v w hp => ?_)
              obtain ⟨s8, cd7, pl7, rfl, rfl, h221⟩ := hp
              refine j_norm (lv' := [(2, .int (iI (plP / 8))), (0, .ref n0), (1, .int (iI ap))]) (st' := [.long (lI s8)]) (ws' := [(n0, oX12 th dp my sm st sz mo ms yb hpk pkr rt rk rx hsh si gt va vn wd wa re ua pkk pxx bp mk bi pl7 cd7 (a9 + 1) (c9 + 1) t9 (s9 + 1) rki rea rby rsE), (st, aI x.g 2400 B), (rea, aI x.g 800 rdE), (rby, aI x.g 4 cbE), (rki, aI x.g 2 kiE)]) [0, 1, 2] [3, 4, 0, 1, 2] rfl rfl (by decide) rfl ?_
              have hs8 : 0 ≤ s8 ∧ s8 < 256 := h221.1.2.2.2.1
              have hc7 := cM_get (f := fun s p2 => fltR (¬ s = crc B ap (plP / 8 - ap).toNat) 10 (fltR (¬ (t9 = 0 ∨ uok t9 (s9 + 1) u0 u1 (a9 + 1).toNat = true)) 11 (0, (a9 + 1), (c9 + 1), t9, (s9 + 1), kiE 0, (if (c9 + 1) = 2 then kiE 1 else -1), p2 / 8, (fun j => utA t9 (u0 j) (u1 j)), (fun j => utB t9 (u0 j) (u1 j))))) hjp.1 h221.1
              refine j_l2i jb dX12_openAt_224 ?_
              refine j_istore_n (lv' := [(3, .int (iI s8)), (2, .int (iI (plP / 8))), (0, .ref n0), (1, .int (iI ap))]) jb dX12_openAt_225 rfl (by decide) rfl ?_
              refine j_aload_n jb dX12_openAt_226 2 rfl ?_
              refine j_get jb f_X12_202 dX12_openAt_227 0 rfl rfl ?_
              have J253 : ∀ (cd8 : Int), (contI R0 cd8 (fltR (¬ (t9 = 0 ∨ uok t9 (s9 + 1) u0 u1 (a9 + 1).toNat = true)) 11 (0, (a9 + 1), (c9 + 1), t9, (s9 + 1), kiE 0, (if (c9 + 1) = 2 then kiE 1 else -1), pl7 / 8, (fun j => utA t9 (u0 j) (u1 j)), (fun j => utB t9 (u0 j) (u1 j)))) ∧ (0 ≤ cd8 ∧ cd8 ≤ 20) ∧ (cd8 = 0 → cd7 = 0)) → JW x 0 0 253 [(0, .ref n0), (1, .int (iI ap)), (2, .int (iI (plP / 8))), (3, .int (iI s8))] [] [(n0, oX12 th dp my sm st sz mo ms yb hpk pkr rt rk rx hsh si gt va vn wd wa re ua pkk pxx bp mk bi pl7 cd8 (a9 + 1) (c9 + 1) t9 (s9 + 1) rki rea rby rsE), (st, aI x.g 2400 B), (rea, aI x.g 800 rdE), (rby, aI x.g 4 cbE), (rki, aI x.g 2 kiE)] := by
                intro cd8 hje
                have hAll : cd8 = 0 → cdE = 0 ∧ plP % 8 = 0 ∧ plE ≤ plP ∧ pl7 = plP + 8 := fun z => (by have y1 := rdM_st h221.1 (hje.2.2 z); have y2 := hjp.2 y1.1; exact ⟨y2.1, y2.2.1, y2.2.2, y1.2.1⟩)
                refine j_aload_n jb dX12_openAt_253 0 rfl ?_
                refine j_get jb f_X12_202 dX12_openAt_254 0 rfl rfl ?_
                have J271 : ∀ (cd9 : Int) (rd9 : Int → Int), (isF R0 cd9 (a9 + 1) (c9 + 1) t9 (s9 + 1) (kiE 0) (if (c9 + 1) = 2 then kiE 1 else -1) (pl7 / 8) rd9 (fun t => rd9 (400 + t)) ∧ (0 ≤ cd9 ∧ cd9 ≤ 20) ∧ (cd9 = 0 → cd8 = 0 ∧ fitOn rd9 (s9 + 1) (a9 + 1) ∧ ((c9 + 1) = 2 → fitOn (fun t => rd9 (400 + t)) (s9 + 1) (a9 + 1)))) → JW x 0 0 271 [(0, .ref n0), (1, .int (iI ap)), (2, .int (iI (plP / 8))), (3, .int (iI s8))] [] [(n0, oX12 th dp my sm st sz mo ms yb hpk pkr rt rk rx hsh si gt va vn wd wa re ua pkk pxx bp mk bi pl7 cd9 (a9 + 1) (c9 + 1) t9 (s9 + 1) rki rea rby rsE), (st, aI x.g 2400 B), (rea, aI x.g 800 rd9), (rby, aI x.g 4 cbE), (rki, aI x.g 2 kiE)] := by
                  intro cd9 rd9 hjf
                  refine j_aload_n jb dX12_openAt_271 0 rfl ?_
                  refine j_get jb f_X12_202 dX12_openAt_272 0 rfl rfl ?_
                  refine j_norm (lv' := []) (st' := [.int (iI cd9)]) (ws' := [(n0, oX12 th dp my sm st sz mo ms yb hpk pkr rt rk rx hsh si gt va vn wd wa re ua pkk pxx bp mk bi pl7 cd9 (a9 + 1) (c9 + 1) t9 (s9 + 1) rki rea rby rsE), (st, aI x.g 2400 B), (rea, aI x.g 800 rd9), (rby, aI x.g 4 cbE), (rki, aI x.g 2 kiE)]) [] [0, 1, 2, 3, 4] rfl rfl (by decide) rfl ?_
                  exact j_iret jb jr dX12_openAt_275 ⟨_, _, _, _, _, _, _, _, _, _, rfl, rfl, (by rw [← hR0]; exact ⟨hjf.1, hjf.2.1, h221.2.2, hE5, hE6, fun z => (by have y := hjf.2.2 z; have hA := hAll y.1; have hE := hE2 hA.1; have hz := hcz hA.1; exact ⟨by omega, by omega, by omega, by omega, by omega, by have := h221.2.2; omega, y.2.1, y.2.2⟩)⟩)⟩
                refine j_if_ne (tgt := 271) jb dX12_openAt_257 (by decide) (by omega) (fun c_257 => ?_) (fun c_257 => ?_)
                · skip
                  refine j_norm (lv' := [(0, .ref n0), (1, .int (iI ap)), (2, .int (iI (plP / 8))), (3, .int (iI s8))]) (st' := []) (ws' := [(n0, oX12 th dp my sm st sz mo ms yb hpk pkr rt rk rx hsh si gt va vn wd wa re ua pkk pxx bp mk bi pl7 cd8 (a9 + 1) (c9 + 1) t9 (s9 + 1) rki rea rby rsE), (st, aI x.g 2400 B), (rea, aI x.g 800 rdE), (rby, aI x.g 4 cbE), (rki, aI x.g 2 kiE)]) [0, 1, 2, 3] [0, 1, 2, 3, 4] rfl rfl (by decide) rfl ?_
                  exact J271 cd8 rdE ⟨isF_bad hje.1 c_257, hje.2.1, fun z => absurd z c_257⟩
                · skip
                  refine j_aload_n jb dX12_openAt_260 0 rfl ?_
                  refine j_get jb f_X12_244 dX12_openAt_261 0 rfl rfl ?_
                  refine j_if_le (tgt := 271) jb dX12_openAt_264 (by decide) (by omega) (fun c_264 => ?_) (fun c_264 => ?_)
                  · skip
                    refine j_norm (lv' := [(0, .ref n0), (1, .int (iI ap)), (2, .int (iI (plP / 8))), (3, .int (iI s8))]) (st' := []) (ws' := [(n0, oX12 th dp my sm st sz mo ms yb hpk pkr rt rk rx hsh si gt va vn wd wa re ua pkk pxx bp mk bi pl7 cd8 (a9 + 1) (c9 + 1) t9 (s9 + 1) rki rea rby rsE), (st, aI x.g 2400 B), (rea, aI x.g 800 rdE), (rby, aI x.g 4 cbE), (rki, aI x.g 2 kiE)]) [0, 1, 2, 3] [0, 1, 2, 3, 4] rfl rfl (by decide) rfl ?_
                    exact J271 cd8 rdE (by have hA := hAll c_257; have hE := hE2 hA.1; have hz := hcz hA.1; have ht0 : t9 = 0 := (by omega); have hf : contI R0 cd8 (0, (a9 + 1), (c9 + 1), t9, (s9 + 1), kiE 0, (if (c9 + 1) = 2 then kiE 1 else -1), pl7 / 8, (fun j => utA t9 (u0 j) (u1 j)), (fun j => utB t9 (u0 j) (u1 j))) := cI_flt hje.1 (flt_no _ 11) (by decide) (Or.inr ⟨rfl, fun y => y (Or.inl ht0)⟩); have hid : ∀ j, 0 ≤ j → j < (a9 + 1) → rdE j = utA t9 (rdE j) ((fun t => rdE (400 + t)) j) ∧ (fun t => rdE (400 + t)) j = utB t9 (rdE j) ((fun t => rdE (400 + t)) j) := (fun j _ _ => by rw [ht0]; exact ⟨rfl, rfl⟩); exact ⟨isF_end hf (fun _ => ut_end (fun y => ht0) (by omega) hE.2.2.1 hE.2.2.2.1 hid), hje.2.1, fun z => ⟨z, fit_end (fun y => ht0) (by omega) hE.2.2.1 hE.2.2.2.1 hE.2.2.2.2.1 hE.2.2.2.2.2 (Or.inl ht0) hid⟩⟩)
                  · skip
                    have hbd : ∀ j, 0 ≤ j → j < (a9 + 1) → (-65536 ≤ rdE j ∧ rdE j ≤ 65536) ∧ (-65536 ≤ rdE (400 + j) ∧ rdE (400 + j) ≤ 65536) := fun j a b => (by have hA := hAll c_257; have hE := hE2 hA.1; have hz := hcz hA.1; have z1 := fit_in hrbi.1 (hE.2.2.2.2.1 j a b); have z2 := fit_in hrbi.2 (hE.2.2.2.2.2 (by omega) j a b); have z2 : -65536 ≤ rdE (400 + j) ∧ rdE (400 + j) < 65536 := z2; omega)
                    have hz9 := hcz (hAll c_257).1
                    refine j_aload_n jb dX12_openAt_267 0 rfl ?_
                    refine j_callV (wr := [(st, aI x.g 2400 B), (rby, aI x.g 4 cbE), (rki, aI x.g 2 kiE)]) jb k_X12_untwist i_X12_untwist s_X12_untwist l_X12_253 (C_X12_untwist x.l x.g n0 my sm st yb pkr rt rk rx si gt va re ua mk rki rea rby th dp sz mo ms hpk hsh vn wd wa pkk pxx bp bi pl7 cd8 (a9 + 1) (c9 + 1) t9 (s9 + 1) rsE rdE c_257 (by omega) (by omega) (by omega) hbd) 0 14 rfl rfl rfl [0, 2] [1, 3, 4] (by decide) rfl rfl (by decide) (by decide) rfl rfl (Nat.le_of_ble_eq_true rfl) (by decide) dX12_openAt_268 (fun v w hp => ?_)
                    obtain ⟨cdu, rdu, rfl, rfl, h268⟩ := hp
                    refine j_norm (lv' := [(0, .ref n0), (1, .int (iI ap)), (2, .int (iI (plP / 8))), (3, .int (iI s8))]) (st' := []) (ws' := [(n0, oX12 th dp my sm st sz mo ms yb hpk pkr rt rk rx hsh si gt va vn wd wa re ua pkk pxx bp mk bi pl7 cdu (a9 + 1) (c9 + 1) t9 (s9 + 1) rki rea rby rsE), (st, aI x.g 2400 B), (rea, aI x.g 800 rdu), (rby, aI x.g 4 cbE), (rki, aI x.g 2 kiE)]) [0, 1, 2, 3] [3, 0, 4, 1, 2] rfl rfl (by decide) rfl ?_
                    refine j_norm (lv' := [(0, .ref n0), (1, .int (iI ap)), (2, .int (iI (plP / 8))), (3, .int (iI s8))]) (st' := []) (ws' := [(n0, oX12 th dp my sm st sz mo ms yb hpk pkr rt rk rx hsh si gt va vn wd wa re ua pkk pxx bp mk bi pl7 cdu (a9 + 1) (c9 + 1) t9 (s9 + 1) rki rea rby rsE), (st, aI x.g 2400 B), (rea, aI x.g 800 rdu), (rby, aI x.g 4 cbE), (rki, aI x.g 2 kiE)]) [0, 1, 2, 3] [0, 1, 2, 3, 4] rfl rfl (by decide) rfl ?_
                    exact J271 cdu rdu (by have hA := hAll c_257; have hE := hE2 hA.1; have hz := hcz hA.1; have hch : (c9 + 1) = 2 := (by omega); have huk : (uok t9 (s9 + 1) rdE (fun t => rdE (400 + t)) (a9 + 1).toNat = true) ↔ (uok t9 (s9 + 1) u0 u1 (a9 + 1).toNat = true) := (by rw [uok_cg (a9 + 1).toNat (fun j a b => hE.2.2.1 j a (by omega)) (fun j a b => hE.2.2.2.1 hch j a (by omega))]); rcases h268.2 with y | y; { have hf : contI R0 cdu (0, (a9 + 1), (c9 + 1), t9, (s9 + 1), kiE 0, (if (c9 + 1) = 2 then kiE 1 else -1), pl7 / 8, (fun j => utA t9 (u0 j) (u1 j)), (fun j => utB t9 (u0 j) (u1 j))) := (by rw [show cdu = cd8 by omega]; exact cI_flt hje.1 (flt_no _ 11) (by decide) (Or.inr ⟨rfl, fun w => w (Or.inr (huk.mp y.2))⟩)); exact ⟨isF_end hf (fun _ => ut_end (fun w => by omega) (by omega) hE.2.2.1 hE.2.2.2.1 h268.1), by omega, fun z => ⟨c_257, fit_end (fun w => by omega) (by omega) hE.2.2.1 hE.2.2.2.1 hE.2.2.2.2.1 hE.2.2.2.2.2 (Or.inr y.2) h268.1⟩⟩ }; { have hf : contI R0 cdu (0, (a9 + 1), (c9 + 1), t9, (s9 + 1), kiE 0, (if (c9 + 1) = 2 then kiE 1 else -1), pl7 / 8, (fun j => utA t9 (u0 j) (u1 j)), (fun j => utB t9 (u0 j) (u1 j))) := cI_flt hje.1 (show cdu = fltIf 1 cd8 11 by rw [← flt_yes, if_pos c_257]; exact y.1) (by decide) (Or.inl ⟨by decide, fun w => w.elim (fun x9 => by omega) (fun x9 => y.2 (huk.mpr x9))⟩); exact ⟨isF_bad hf (by omega), by omega, fun z => absurd z (by omega)⟩ })
              refine j_if_ne (tgt := 253) jb dX12_openAt_230 (by decide) (by omega) (fun c_230 => ?_) (fun c_230 => ?_)
              · skip
                refine j_norm (lv' := [(0, .ref n0), (1, .int (iI ap)), (2, .int (iI (plP / 8))), (3, .int (iI s8))]) (st' := []) (ws' := [(n0, oX12 th dp my sm st sz mo ms yb hpk pkr rt rk rx hsh si gt va vn wd wa re ua pkk pxx bp mk bi pl7 cd7 (a9 + 1) (c9 + 1) t9 (s9 + 1) rki rea rby rsE), (st, aI x.g 2400 B), (rea, aI x.g 800 rdE), (rby, aI x.g 4 cbE), (rki, aI x.g 2 kiE)]) [2, 3, 1, 0] [0, 1, 2, 3, 4] rfl rfl (by decide) rfl ?_
                exact J253 cd7 ⟨cI_any hc7 c_230, h221.2.1, fun z => z⟩
              · skip
                have hcd7 := rdM_st h221.1 c_230
                have hPz := hjp.2 hcd7.1
                refine j_iload_n jb dX12_openAt_233 0 rfl ?_
                refine j_aload_n jb dX12_openAt_234 2 rfl ?_
                refine j_aload_n jb dX12_openAt_235 2 rfl ?_
                refine j_get jb f_X12_23 dX12_openAt_236 0 rfl rfl ?_
                refine j_iload_n jb dX12_openAt_239 3 rfl ?_
                refine j_iload_n jb dX12_openAt_240 1 rfl ?_
                refine j_callV (wr := [(rea, aI x.g 800 rdE), (rby, aI x.g 4 cbE), (rki, aI x.g 2 kiE)]) jb k_X12_sumOf i_X12_sumOf s_X12_sumOf l_X12_188 (C_X12_sumOf_s x.l x.g n0 my sm st yb pkr rt rk rx si gt va re ua mk rki rea rby th dp sz mo ms hpk hsh vn wd wa pkk pxx bp bi pl7 cd7 (a9 + 1) (c9 + 1) t9 (s9 + 1) rsE ap (plP / 8) B (by omega) hB) 0 14 rfl rfl rfl [0, 1] [2, 3, 4] (by decide) rfl rfl (by decide) (by decide) rfl rfl (Nat.le_of_ble_eq_true rfl) (by decide) dX12_openAt_241 (fun v w hp => ?_)
                obtain ⟨sm9, rfl, rfl, h241⟩ := hp
                refine j_norm (lv' := [(3, .int (iI s8)), (2, .int (iI (plP / 8))), (0, .ref n0), (1, .int (iI ap))]) (st' := [.int (iI sm9), .int (iI s8)]) (ws' := [(n0, oX12 th dp my sm st sz mo ms yb hpk pkr rt rk rx hsh si gt va vn wd wa re ua pkk pxx bp mk bi pl7 cd7 (a9 + 1) (c9 + 1) t9 (s9 + 1) rki rea rby rsE), (st, aI x.g 2400 B), (rea, aI x.g 800 rdE), (rby, aI x.g 4 cbE), (rki, aI x.g 2 kiE)]) [0, 1, 2, 3] [3, 4, 0, 1, 2] rfl rfl (by decide) rfl ?_
                refine j_icmp_eq (tgt := 253) jb dX12_openAt_244 (by decide) (by omega) (by omega) (fun c_244 => ?_) (fun c_244 => ?_)
                · skip
                  refine j_norm (lv' := [(0, .ref n0), (1, .int (iI ap)), (2, .int (iI (plP / 8))), (3, .int (iI s8))]) (st' := []) (ws' := [(n0, oX12 th dp my sm st sz mo ms yb hpk pkr rt rk rx hsh si gt va vn wd wa re ua pkk pxx bp mk bi pl7 cd7 (a9 + 1) (c9 + 1) t9 (s9 + 1) rki rea rby rsE), (st, aI x.g 2400 B), (rea, aI x.g 800 rdE), (rby, aI x.g 4 cbE), (rki, aI x.g 2 kiE)]) [2, 3, 1, 0] [0, 1, 2, 3, 4] rfl rfl (by decide) rfl ?_
                  exact J253 cd7 ⟨cI_flt hc7 (flt_no _ 10) (by decide) (Or.inr ⟨rfl, fun z => z (by rw [← h241.1]; exact c_244)⟩), h221.2.1, fun z => z⟩
                · skip
                  refine j_aload_n jb dX12_openAt_247 2 rfl ?_
                  refine j_bipush jb dX12_openAt_248 (by decide) ?_
                  refine j_callV (wr := [(st, aI x.g 2400 B), (rea, aI x.g 800 rdE), (rby, aI x.g 4 cbE), (rki, aI x.g 2 kiE)]) jb k_X12_wrong i_X12_wrong s_X12_wrong l_X12_208 (C_X12_wrong x.l x.g n0 my sm st yb pkr rt rk rx si gt va re ua mk rki rea rby th dp sz mo ms hpk hsh vn wd wa pkk pxx bp bi pl7 cd7 (a9 + 1) (c9 + 1) t9 (s9 + 1) rsE 10 (by omega)) 0 14 rfl rfl rfl [0] [1, 2, 3, 4] (by decide) rfl rfl (by decide) (by decide) rfl rfl (Nat.le_of_ble_eq_true rfl) (by decide) dX12_openAt_250 (fun v w hp => ?_)
                  obtain ⟨cd8, rfl, rfl, h250⟩ := hp
                  refine j_norm (lv' := [(3, .int (iI s8)), (2, .int (iI (plP / 8))), (0, .ref n0), (1, .int (iI ap))]) (st' := []) (ws' := [(n0, oX12 th dp my sm st sz mo ms yb hpk pkr rt rk rx hsh si gt va vn wd wa re ua pkk pxx bp mk bi pl7 cd8 (a9 + 1) (c9 + 1) t9 (s9 + 1) rki rea rby rsE), (st, aI x.g 2400 B), (rea, aI x.g 800 rdE), (rby, aI x.g 4 cbE), (rki, aI x.g 2 kiE)]) [0, 1, 2, 3] [4, 0, 1, 2, 3] rfl rfl (by decide) rfl ?_
                  refine j_norm (lv' := [(0, .ref n0), (1, .int (iI ap)), (2, .int (iI (plP / 8))), (3, .int (iI s8))]) (st' := []) (ws' := [(n0, oX12 th dp my sm st sz mo ms yb hpk pkr rt rk rx hsh si gt va vn wd wa re ua pkk pxx bp mk bi pl7 cd8 (a9 + 1) (c9 + 1) t9 (s9 + 1) rki rea rby rsE), (st, aI x.g 2400 B), (rea, aI x.g 800 rdE), (rby, aI x.g 4 cbE), (rki, aI x.g 2 kiE)]) [2, 3, 1, 0] [0, 1, 2, 3, 4] rfl rfl (by decide) rfl ?_
                  exact J253 cd8 ⟨cI_flt hc7 h250 (by decide) (Or.inl ⟨by decide, by rw [← h241.1]; exact c_244⟩), flt_in h250 h221.2.1 (by decide), fun z => absurd (flt_0 h250 (by decide) z).1 (by decide)⟩
            refine j_if_ne (tgt := 210) jb dX12_openAt_180 (by decide) (by omega) (fun c_180 => ?_) (fun c_180 => ?_)
            · skip
              refine j_norm (lv' := [(0, .ref n0), (1, .int (iI ap))]) (st' := []) (ws' := [(n0, oX12 th dp my sm st sz mo ms yb hpk pkr rt rk rx hsh si gt va vn wd wa re ua pkk pxx bp mk bi plP cdP (a9 + 1) (c9 + 1) t9 (s9 + 1) rki rea rby rsE), (st, aI x.g 2400 B), (rea, aI x.g 800 rdE), (rby, aI x.g 4 cbE), (rki, aI x.g 2 kiE)]) [0, 1] [0, 1, 2, 3, 4] rfl rfl (by decide) rfl ?_
              exact J210  ⟨⟨fun z => absurd z c_180, fun _ => Or.elim hP3 (fun y => absurd y.1 c_180) (fun y => y.2)⟩, fun z => absurd z c_180⟩
            · skip
              refine j_aload_n jb dX12_openAt_183 0 rfl ?_
              refine j_get jb f_X12_205 dX12_openAt_184 0 rfl rfl ?_
              refine j_bipush jb dX12_openAt_187 (by decide) ?_
              refine j_irem jb dX12_openAt_189 (by omega) ?_
              refine j_if_le (tgt := 210) jb dX12_openAt_190 (by decide) (by omega) (fun c_190 => ?_) (fun c_190 => ?_)
              · skip
                refine j_norm (lv' := [(0, .ref n0), (1, .int (iI ap))]) (st' := []) (ws' := [(n0, oX12 th dp my sm st sz mo ms yb hpk pkr rt rk rx hsh si gt va vn wd wa re ua pkk pxx bp mk bi plP cdP (a9 + 1) (c9 + 1) t9 (s9 + 1) rki rea rby rsE), (st, aI x.g 2400 B), (rea, aI x.g 800 rdE), (rby, aI x.g 4 cbE), (rki, aI x.g 2 kiE)]) [0, 1] [0, 1, 2, 3, 4] rfl rfl (by decide) rfl ?_
                exact J210  (by rcases hP3 with y | y; { have ez : plP - plE = -plE % 8 := (by omega); have w9 := y.2.2.2.2; rw [ez] at w9; have g9 := pad_ok (G := fun p => (taR B sz ap (a9 + 1) (c9 + 1) t9 (s9 + 1) (kiE 0) (if (c9 + 1) = 2 then kiE 1 else -1) u0 u1 p)) (hEe y.2.1) hE4.2 w9; refine ⟨cI_0 y.1 ?_, fun _ => ⟨y.2.1, by omega, y.2.2.1⟩⟩; rw [g9, show plE + -plE % 8 = plP by omega] }; { exact absurd c_180 y.1 })
              · skip
                have hPL : cdP = 0 ∧ cdE = 0 ∧ plE ≤ plP ∧ plP ≤ plE + -plE % 8 ∧ num B plE (plP - plE).toNat = 0 := Or.elim hP3 (fun y => y) (fun y => absurd c_180 y.1)
                refine j_aload_n jb dX12_openAt_193 0 rfl ?_
                refine j_callV (wr := [(rea, aI x.g 800 rdE), (rby, aI x.g 4 cbE), (rki, aI x.g 2 kiE)]) jb k_X12_bit i_X12_bit s_X12_bit l_X12_211 (C_X12_bit x.l x.g n0 my sm st yb pkr rt rk rx si gt va re ua mk rki rea rby th dp sz mo ms hpk hsh vn wd wa pkk pxx bp bi plP cdP (a9 + 1) (c9 + 1) t9 (s9 + 1) rsE B hB (by omega) (by omega) (by omega)) 0 14 rfl rfl rfl [0, 1] [2, 3, 4] (by decide) rfl rfl (by decide) (by decide) rfl rfl (Nat.le_of_ble_eq_true rfl) (by decide) dX12_openAt_194 (fun v w hp => ?_)
                obtain ⟨b1, cdb, plb, rfl, rfl, h194⟩ := hp
                refine j_norm (lv' := [(0, .ref n0), (1, .int (iI ap))]) (st' := [.int (iI b1)]) (ws' := [(n0, oX12 th dp my sm st sz mo ms yb hpk pkr rt rk rx hsh si gt va vn wd wa re ua pkk pxx bp mk bi plb cdb (a9 + 1) (c9 + 1) t9 (s9 + 1) rki rea rby rsE), (st, aI x.g 2400 B), (rea, aI x.g 800 rdE), (rby, aI x.g 4 cbE), (rki, aI x.g 2 kiE)]) [0, 1] [3, 4, 0, 1, 2] rfl rfl (by decide) rfl ?_
                have hb1 := rdB_in h194
                have h194f := rdB_fa h194
                have hst := h194.1 ⟨c_180, by omega⟩
                refine j_iconst jb dX12_openAt_197 ?_
                refine j_icmp_ne (tgt := 176) jb dX12_openAt_198 (by decide) (by omega) (by omega) (fun c_198 => ?_) (fun c_198 => ?_)
                · skip
                  refine j_norm (lv' := [(0, .ref n0), (1, .int (iI ap))]) (st' := []) (ws' := [(n0, oX12 th dp my sm st sz mo ms yb hpk pkr rt rk rx hsh si gt va vn wd wa re ua pkk pxx bp mk bi plb cdb (a9 + 1) (c9 + 1) t9 (s9 + 1) rki rea rby rsE), (st, aI x.g 2400 B), (rea, aI x.g 800 rdE), (rby, aI x.g 4 cbE), (rki, aI x.g 2 kiE)]) [0, 1] [0, 1, 2, 3, 4] rfl rfl (by decide) rfl ?_
                  exact ih176 cdb plb (by have y := hPL; have z := h194.1 ⟨c_180, by omega⟩; exact ⟨by omega, by omega, Or.inl ⟨z.1, y.2.1, by omega, by omega, by (have w9 := num_step (B := B) (pos := plE) (i := plP - plE) (n := 0) (by omega) y.2.2.2.2.symm); rw [show plE + (plP - plE) = plP by omega] at w9; rw [show plb - plE = plP - plE + 1 by omega, ← w9]; omega⟩⟩) (by omega)
                · skip
                  refine j_aload_n jb dX12_openAt_201 0 rfl ?_
                  refine j_bipush jb dX12_openAt_202 (by decide) ?_
                  refine j_callV (wr := [(st, aI x.g 2400 B), (rea, aI x.g 800 rdE), (rby, aI x.g 4 cbE), (rki, aI x.g 2 kiE)]) jb k_X12_wrong i_X12_wrong s_X12_wrong l_X12_208 (C_X12_wrong x.l x.g n0 my sm st yb pkr rt rk rx si gt va re ua mk rki rea rby th dp sz mo ms hpk hsh vn wd wa pkk pxx bp bi plb cdb (a9 + 1) (c9 + 1) t9 (s9 + 1) rsE 9 (by omega)) 0 14 rfl rfl rfl [0] [1, 2, 3, 4] (by decide) rfl rfl (by decide) (by decide) rfl rfl (Nat.le_of_ble_eq_true rfl) (by decide) dX12_openAt_204 (fun v w hp => ?_)
                  obtain ⟨cdc, rfl, rfl, h204⟩ := hp
                  refine j_norm (lv' := [(0, .ref n0), (1, .int (iI ap))]) (st' := []) (ws' := [(n0, oX12 th dp my sm st sz mo ms yb hpk pkr rt rk rx hsh si gt va vn wd wa re ua pkk pxx bp mk bi plb cdc (a9 + 1) (c9 + 1) t9 (s9 + 1) rki rea rby rsE), (st, aI x.g 2400 B), (rea, aI x.g 800 rdE), (rby, aI x.g 4 cbE), (rki, aI x.g 2 kiE)]) [0, 1] [4, 0, 1, 2, 3] rfl rfl (by decide) rfl ?_
                  refine j_goto (tgt := 176) jb dX12_openAt_207 (by decide) ?_
                  refine j_norm (lv' := [(0, .ref n0), (1, .int (iI ap))]) (st' := []) (ws' := [(n0, oX12 th dp my sm st sz mo ms yb hpk pkr rt rk rx hsh si gt va vn wd wa re ua pkk pxx bp mk bi plb cdc (a9 + 1) (c9 + 1) t9 (s9 + 1) rki rea rby rsE), (st, aI x.g 2400 B), (rea, aI x.g 800 rdE), (rby, aI x.g 4 cbE), (rki, aI x.g 2 kiE)]) [0, 1] [0, 1, 2, 3, 4] rfl rfl (by decide) rfl ?_
                  exact ih176 cdc plb (by have y := hPL; have z := h194.1 ⟨c_180, by omega⟩; have w9 : cdc = 9 := (by rw [h204, ← flt_yes, if_pos z.1]); exact ⟨by omega, by omega, Or.inr ⟨by omega, by rw [w9]; exact pad_bad (G := fun p => (taR B sz ap (a9 + 1) (c9 + 1) t9 (s9 + 1) (kiE 0) (if (c9 + 1) = 2 then kiE 1 else -1) u0 u1 p)) (hEe y.2.1) hE4.2 (k := plP - plE) (by omega) (by rw [show plE + (plP - plE) = plP by omega]; omega)⟩⟩) (by omega)
        refine j_norm (lv' := [(0, .ref n0), (1, .int (iI ap))]) (st' := []) (ws' := [(n0, oX12 th dp my sm st sz mo ms yb hpk pkr rt rk rx hsh si gt va vn wd wa re ua pkk pxx bp mk bi plE cdE (a9 + 1) (c9 + 1) t9 (s9 + 1) rki rea rby rsE), (st, aI x.g 2400 B), (rea, aI x.g 800 rdE), (rby, aI x.g 4 cbE), (rki, aI x.g 2 kiE)]) [0, 1] [0, 1, 2, 3, 4] rfl rfl (by decide) rfl ?_
        exact L176 _ cdE plE ⟨hE3, hE4, (by (by_cases z : cdE = 0); { exact Or.inl ⟨z, z, Int.le_refl _, by omega, by rw [Int.sub_self]; rfl⟩ }; { exact Or.inr ⟨z, hE1.2 z⟩ })⟩ (Nat.lt_succ_self _)
      refine j_iconst jb dX12_openAt_93 ?_
      refine j_istore_n (lv' := [(2, .int (iI 0)), (0, .ref n0), (1, .int (iI ap))]) jb dX12_openAt_94 rfl (by decide) rfl ?_
      refine j_iload_n jb dX12_openAt_95 0 rfl ?_
      refine j_aload_n jb dX12_openAt_96 1 rfl ?_
      refine j_get jb f_X12_241 dX12_openAt_97 0 rfl rfl ?_
      refine j_icmp_ge (tgt := 176) jb dX12_openAt_100 (by decide) (by omega) (by omega) (fun c_100 => ?_) (fun c_100 => ?_)
      · skip
        exact absurd c_100 (by omega)
      · skip
        refine j_aload_n jb dX12_openAt_103 1 rfl ?_
        refine j_get jb f_X12_202 dX12_openAt_104 0 rfl rfl ?_
        refine j_if_ne (tgt := 176) jb dX12_openAt_107 (by decide) (by omega) (fun c_107 => ?_) (fun c_107 => ?_)
        · skip
          refine j_norm (lv' := [(0, .ref n0), (1, .int (iI ap))]) (st' := []) (ws' := [(n0, oX12 th dp my sm st sz mo ms yb hpk pkr rt rk rx hsh si gt va vn wd wa re ua pkk pxx bp mk bi pl6 cd6 (a9 + 1) (c9 + 1) t9 (s9 + 1) rki rea rby rsh), (st, aI x.g 2400 B), (rea, aI x.g 800 rd), (rby, aI x.g 4 cb), (rki, aI x.g 2 ki)]) [1, 2] [0, 1, 2, 3, 4] rfl rfl (by decide) rfl ?_
          exact J176 cd6 pl6 rsh rd cb ki ⟨z0, z0, cI_any hc84 c_107, fun z => absurd z c_107, h84.2.1, h84.2.2, hcf, hrs⟩
        · skip
          refine j_aload_n jb dX12_openAt_110 1 rfl ?_
          refine j_get jb f_X12_244 dX12_openAt_111 0 rfl rfl ?_
          refine j_iconst jb dX12_openAt_114 ?_
          have J167 : ∀ (rbv : Int), rbv = rbF t9 (s9 + 1) → JW x 0 0 167 [(0, .ref n0), (1, .int (iI ap)), (2, .int (iI 0))] [.int (iI rbv), .int (iI 0), .ref n0] [(n0, oX12 th dp my sm st sz mo ms yb hpk pkr rt rk rx hsh si gt va vn wd wa re ua pkk pxx bp mk bi pl6 cd6 (a9 + 1) (c9 + 1) t9 (s9 + 1) rki rea rby rsh), (st, aI x.g 2400 B), (rea, aI x.g 800 rd), (rby, aI x.g 4 cb), (rki, aI x.g 2 ki)] := by
            intro rbv hrb
            refine j_callV (wr := []) jb k_X12_readRow i_X12_readRow s_X12_readRow l_X12_250 (C_X12_readRow x.l x.g n0 my sm st yb pkr rt rk rx si gt va re ua mk rki rea rby th dp sz mo ms hpk hsh vn wd wa pkk pxx bp bi pl6 cd6 (a9 + 1) (c9 + 1) t9 (s9 + 1) rsh 0 rbv B rd cb ki c_107 (by decide) (by have := hz6 c_107; omega) (by omega) hcf hrs hB hl (by omega) h84.2.2) 0 14 rfl rfl rfl [0, 1, 2, 3, 4] [] (by decide) rfl rfl (by decide) (by decide) rfl rfl (Nat.le_of_ble_eq_true rfl) (by decide) dX12_openAt_167 (fun v w hp => ?_)
            obtain ⟨cdR0, plR0, rsR0, kdR0, rdR0, cbR0, rfl, rfl, h1670⟩ := hp
            refine j_norm (lv' := [(0, .ref n0), (1, .int (iI ap)), (2, .int (iI 0))]) (st' := []) (ws' := [(n0, oX12 th dp my sm st sz mo ms yb hpk pkr rt rk rx hsh si gt va vn wd wa re ua pkk pxx bp mk bi plR0 cdR0 (a9 + 1) (c9 + 1) t9 (s9 + 1) rki rea rby rsR0), (st, aI x.g 2400 B), (rea, aI x.g 800 rdR0), (rby, aI x.g 4 cbR0), (rki, aI x.g 2 (zup ki 0 kdR0))]) [0, 1, 2] [0, 1, 2, 3, 4] rfl rfl (by decide) rfl ?_
            have hcd6 : cd6 = 0 := c_107
            have hRa := h1670
            have hz00 : (fun t => rdR0 (400 * 0 + t)) = rdR0 := by (funext t; rw [show 400 * 0 + t = t by omega])
            rw [hrb, hz00] at hRa
            have hcR0 : contI R0 cdR0 ((fun p1 v0 => if (c9 + 1) = 2 then thenR (rowR B sz (a9 + 1) (rbS t9 (s9 + 1)) z0 p1 z0) (fun p2 v1 => endR B sz ap (a9 + 1) (c9 + 1) t9 (s9 + 1) (num B pl6 3) (num B p1 3) p2 v0 v1) else endR B sz ap (a9 + 1) (c9 + 1) t9 (s9 + 1) (num B pl6 3) (-1) p1 v0 z0) plR0 (rowR B sz (a9 + 1) (rbF t9 (s9 + 1)) z0 pl6 z0).2.2) := cI_row hc84 c_107 hRa.1
            have hge0 : cdR0 = 0 → pl6 ≤ plR0 := fun z => by (have y := rowR_ge (B := B) (c := z0) (len := sz) (n := (a9 + 1)) (rb := rbF t9 (s9 + 1)) (pos := pl6) (v := z0) (by rw [← hRa.1.1]; exact z); rw [(hRa.1.2 z).1]; exact y)
            refine j_iinc (lv' := [(2, .int (iI 1)), (0, .ref n0), (1, .int (iI ap))]) jb dX12_openAt_170 2 rfl (by decide) rfl ?_
            refine j_goto (tgt := 95) jb dX12_openAt_173 (by decide) ?_
            refine j_iload_n jb dX12_openAt_95 0 rfl ?_
            refine j_aload_n jb dX12_openAt_96 1 rfl ?_
            refine j_get jb f_X12_241 dX12_openAt_97 0 rfl rfl ?_
            refine j_icmp_ge (tgt := 176) jb dX12_openAt_100 (by decide) (by omega) (by omega) (fun c_100 => ?_) (fun c_100 => ?_)
            · skip
              refine j_norm (lv' := [(0, .ref n0), (1, .int (iI ap))]) (st' := []) (ws' := [(n0, oX12 th dp my sm st sz mo ms yb hpk pkr rt rk rx hsh si gt va vn wd wa re ua pkk pxx bp mk bi plR0 cdR0 (a9 + 1) (c9 + 1) t9 (s9 + 1) rki rea rby rsR0), (st, aI x.g 2400 B), (rea, aI x.g 800 rdR0), (rby, aI x.g 4 cbR0), (rki, aI x.g 2 (zup ki 0 kdR0))]) [1, 2] [0, 1, 2, 3, 4] rfl rfl (by decide) rfl ?_
              exact J176 cdR0 plR0 rsR0 rdR0 cbR0 (zup ki 0 kdR0) (by have hch1 : ¬ (c9 + 1) = 2 := (by omega); refine ⟨(rowR B sz (a9 + 1) (rbF t9 (s9 + 1)) z0 pl6 z0).2.2, z0, ?_, fun z => ⟨c_107, by have := hge0 z; have := hz6 hcd6; omega, (hRa.1.2 z).2, fun y => absurd y hch1, (hRa.2.2.2.2.2.2.1 z).1, fun y => absurd y hch1⟩, hRa.2.1, hRa.2.2.1, hRa.2.2.2.1, hRa.2.2.2.2.1⟩; (by_cases z : cdR0 = 0); { have y := hcR0; have y : contI R0 cdR0 (if (c9 + 1) = 2 then _ else _) := y; rw [if_neg hch1] at y; rw [if_neg hch1, zup_s, (hRa.2.2.2.2.2.2.1 z).2]; exact y }; { exact cI_any hcR0 z })
            · skip
              refine j_aload_n jb dX12_openAt_103 1 rfl ?_
              refine j_get jb f_X12_202 dX12_openAt_104 0 rfl rfl ?_
              refine j_if_ne (tgt := 176) jb dX12_openAt_107 (by decide) (by omega) (fun c_107 => ?_) (fun c_107 => ?_)
              · skip
                refine j_norm (lv' := [(0, .ref n0), (1, .int (iI ap))]) (st' := []) (ws' := [(n0, oX12 th dp my sm st sz mo ms yb hpk pkr rt rk rx hsh si gt va vn wd wa re ua pkk pxx bp mk bi plR0 cdR0 (a9 + 1) (c9 + 1) t9 (s9 + 1) rki rea rby rsR0), (st, aI x.g 2400 B), (rea, aI x.g 800 rdR0), (rby, aI x.g 4 cbR0), (rki, aI x.g 2 (zup ki 0 kdR0))]) [1, 2] [0, 1, 2, 3, 4] rfl rfl (by decide) rfl ?_
                exact J176 cdR0 plR0 rsR0 rdR0 cbR0 (zup ki 0 kdR0) ⟨z0, z0, cI_any hcR0 c_107, fun z => absurd z c_107, hRa.2.1, hRa.2.2.1, hRa.2.2.2.1, hRa.2.2.2.2.1⟩
              · skip
                refine j_aload_n jb dX12_openAt_110 1 rfl ?_
                refine j_get jb f_X12_244 dX12_openAt_111 0 rfl rfl ?_
                refine j_iconst jb dX12_openAt_114 ?_
                have J167 : ∀ (rbv : Int), rbv = rbS t9 (s9 + 1) → JW x 0 0 167 [(0, .ref n0), (1, .int (iI ap)), (2, .int (iI 1))] [.int (iI rbv), .int (iI 1), .ref n0] [(n0, oX12 th dp my sm st sz mo ms yb hpk pkr rt rk rx hsh si gt va vn wd wa re ua pkk pxx bp mk bi plR0 cdR0 (a9 + 1) (c9 + 1) t9 (s9 + 1) rki rea rby rsR0), (st, aI x.g 2400 B), (rea, aI x.g 800 rdR0), (rby, aI x.g 4 cbR0), (rki, aI x.g 2 (zup ki 0 kdR0))] := by
                  intro rbv hrb
                  refine j_callV (wr := []) jb k_X12_readRow i_X12_readRow s_X12_readRow l_X12_250 (C_X12_readRow x.l x.g n0 my sm st yb pkr rt rk rx si gt va re ua mk rki rea rby th dp sz mo ms hpk hsh vn wd wa pkk pxx bp bi plR0 cdR0 (a9 + 1) (c9 + 1) t9 (s9 + 1) rsR0 1 rbv B rdR0 cbR0 (zup ki 0 kdR0) c_107 (by decide) (by have := hz6 hcd6; omega) (by omega) hRa.2.2.2.1 hRa.2.2.2.2.1 hB hl (by omega) hRa.2.2.1) 0 14 rfl rfl rfl [0, 1, 2, 3, 4] [] (by decide) rfl rfl (by decide) (by decide) rfl rfl (Nat.le_of_ble_eq_true rfl) (by decide) dX12_openAt_167 (fun v w hp => ?_)
                  obtain ⟨cdR1, plR1, rsR1, kdR1, rdR1, cbR1, rfl, rfl, h1671⟩ := hp
                  refine j_norm (lv' := [(0, .ref n0), (1, .int (iI ap)), (2, .int (iI 1))]) (st' := []) (ws' := [(n0, oX12 th dp my sm st sz mo ms yb hpk pkr rt rk rx hsh si gt va vn wd wa re ua pkk pxx bp mk bi plR1 cdR1 (a9 + 1) (c9 + 1) t9 (s9 + 1) rki rea rby rsR1), (st, aI x.g 2400 B), (rea, aI x.g 800 rdR1), (rby, aI x.g 4 cbR1), (rki, aI x.g 2 (zup (zup ki 0 kdR0) 1 kdR1))]) [0, 1, 2] [0, 1, 2, 3, 4] rfl rfl (by decide) rfl ?_
                  have hcR2 : contI R0 cdR0 (thenR (rowR B sz (a9 + 1) (rbS t9 (s9 + 1)) z0 plR0 z0) (fun p2 v1 => endR B sz ap (a9 + 1) (c9 + 1) t9 (s9 + 1) (num B pl6 3) (num B plR0 3) p2 (rowR B sz (a9 + 1) (rbF t9 (s9 + 1)) z0 pl6 z0).2.2 v1)) := by (have y : contI R0 cdR0 (if (c9 + 1) = 2 then thenR (rowR B sz (a9 + 1) (rbS t9 (s9 + 1)) z0 plR0 z0) (fun p2 v1 => endR B sz ap (a9 + 1) (c9 + 1) t9 (s9 + 1) (num B pl6 3) (num B plR0 3) p2 (rowR B sz (a9 + 1) (rbF t9 (s9 + 1)) z0 pl6 z0).2.2 v1) else endR B sz ap (a9 + 1) (c9 + 1) t9 (s9 + 1) (num B pl6 3) (-1) plR0 (rowR B sz (a9 + 1) (rbF t9 (s9 + 1)) z0 pl6 z0).2.2 z0) := hcR0; rw [if_pos (by omega)] at y; exact y)
                  have hRb := h1671
                  have hz01 : (fun t => rdR1 (400 * 1 + t)) = (fun t => rdR1 (400 + t)) := by (funext t; rw [show 400 * 1 + t = 400 + t by omega])
                  rw [hrb, hz01] at hRb
                  have hcR1 : contI R0 cdR1 ((fun p2 v1 => endR B sz ap (a9 + 1) (c9 + 1) t9 (s9 + 1) (num B pl6 3) (num B plR0 3) p2 (rowR B sz (a9 + 1) (rbF t9 (s9 + 1)) z0 pl6 z0).2.2 v1) plR1 (rowR B sz (a9 + 1) (rbS t9 (s9 + 1)) z0 plR0 z0).2.2) := cI_row hcR2 c_107 hRb.1
                  have hge1 : cdR1 = 0 → plR0 ≤ plR1 := fun z => by (have y := rowR_ge (B := B) (c := z0) (len := sz) (n := (a9 + 1)) (rb := rbS t9 (s9 + 1)) (pos := plR0) (v := z0) (by rw [← hRb.1.1]; exact z); rw [(hRb.1.2 z).1]; exact y)
                  refine j_iinc (lv' := [(2, .int (iI 2)), (0, .ref n0), (1, .int (iI ap))]) jb dX12_openAt_170 2 rfl (by decide) rfl ?_
                  refine j_goto (tgt := 95) jb dX12_openAt_173 (by decide) ?_
                  refine j_iload_n jb dX12_openAt_95 0 rfl ?_
                  refine j_aload_n jb dX12_openAt_96 1 rfl ?_
                  refine j_get jb f_X12_241 dX12_openAt_97 0 rfl rfl ?_
                  refine j_icmp_ge (tgt := 176) jb dX12_openAt_100 (by decide) (by omega) (by omega) (fun c_100 => ?_) (fun c_100 => ?_)
                  · skip
                    refine j_norm (lv' := [(0, .ref n0), (1, .int (iI ap))]) (st' := []) (ws' := [(n0, oX12 th dp my sm st sz mo ms yb hpk pkr rt rk rx hsh si gt va vn wd wa re ua pkk pxx bp mk bi plR1 cdR1 (a9 + 1) (c9 + 1) t9 (s9 + 1) rki rea rby rsR1), (st, aI x.g 2400 B), (rea, aI x.g 800 rdR1), (rby, aI x.g 4 cbR1), (rki, aI x.g 2 (zup (zup ki 0 kdR0) 1 kdR1))]) [1, 2] [0, 1, 2, 3, 4] rfl rfl (by decide) rfl ?_
                    exact J176 cdR1 plR1 rsR1 rdR1 cbR1 (zup (zup ki 0 kdR0) 1 kdR1) (by have hch2 : (c9 + 1) = 2 := (by omega); refine ⟨(rowR B sz (a9 + 1) (rbF t9 (s9 + 1)) z0 pl6 z0).2.2, (rowR B sz (a9 + 1) (rbS t9 (s9 + 1)) z0 plR0 z0).2.2, ?_, fun z => ⟨hcd6, by have := hge0 c_107; have := hge1 z; have := hz6 hcd6; omega, fun j a d => (hRb.2.2.2.2.2.2.2 j (by omega)).trans ((hRa.1.2 c_107).2 j a d), fun _ => (hRb.1.2 z).2, fun j a d => (by rw [hRb.2.2.2.2.2.2.2 j (by omega)]; exact (hRa.2.2.2.2.2.2.1 c_107).1 j a d), fun _ => (hRb.2.2.2.2.2.2.1 z).1⟩, hRb.2.1, hRb.2.2.1, hRb.2.2.2.1, hRb.2.2.2.2.1⟩; (by_cases z : cdR1 = 0); { rw [if_pos hch2, zup_s, zup_n (by decide), zup_s, (hRa.2.2.2.2.2.2.1 c_107).2, (hRb.2.2.2.2.2.2.1 z).2]; exact hcR1 }; { exact cI_any hcR1 z })
                  · skip
                    exact absurd c_100 (by omega)
                refine j_icmp_ne (tgt := 130) jb dX12_openAt_115 (by decide) (by omega) (by omega) (fun c_115 => ?_) (fun c_115 => ?_)
                · skip
                  refine j_aload_n jb dX12_openAt_130 1 rfl ?_
                  refine j_get jb f_X12_244 dX12_openAt_131 0 rfl rfl ?_
                  refine j_if_le (tgt := 146) jb dX12_openAt_134 (by decide) (by omega) (fun c_134 => ?_) (fun c_134 => ?_)
                  · skip
                    refine j_iconst jb dX12_openAt_146 ?_
                    refine j_istore_n (lv' := [(3, .int (iI 0)), (2, .int (iI 1)), (0, .ref n0), (1, .int (iI ap))]) jb dX12_openAt_147 rfl (by decide) rfl ?_
                    refine j_aload_n jb dX12_openAt_148 2 rfl ?_
                    refine j_iload_n jb dX12_openAt_149 1 rfl ?_
                    refine j_iload_n jb dX12_openAt_150 0 rfl ?_
                    refine j_if_eq (tgt := 163) jb dX12_openAt_151 (by decide) (by decide) (fun _ => ?_) (fun h => absurd h (by decide))
                    refine j_aload_n jb dX12_openAt_163 2 rfl ?_
                    refine j_get jb f_X12_247 dX12_openAt_164 0 rfl rfl ?_
                    refine j_norm (lv' := [(0, .ref n0), (1, .int (iI ap)), (2, .int (iI 1))]) (st' := [.int (iI (s9 + 1)), .int (iI 1), .ref n0]) (ws' := [(n0, oX12 th dp my sm st sz mo ms yb hpk pkr rt rk rx hsh si gt va vn wd wa re ua pkk pxx bp mk bi plR0 cdR0 (a9 + 1) (c9 + 1) t9 (s9 + 1) rki rea rby rsR0), (st, aI x.g 2400 B), (rea, aI x.g 800 rdR0), (rby, aI x.g 4 cbR0), (rki, aI x.g 2 (zup ki 0 kdR0))]) [2, 3, 1] [0, 1, 2, 3, 4] rfl rfl (by decide) rfl ?_
                    exact J167 (s9 + 1) (by omega)
                  · skip
                    refine j_iload_n jb dX12_openAt_137 0 rfl ?_
                    refine j_iconst jb dX12_openAt_138 ?_
                    refine j_icmp_ne (tgt := 146) jb dX12_openAt_139 (by decide) (by decide) (by decide) (fun h => absurd h (by decide)) (fun _ => ?_)
                    refine j_iconst jb dX12_openAt_142 ?_
                    refine j_goto (tgt := 147) jb dX12_openAt_143 (by decide) ?_
                    refine j_istore_n (lv' := [(3, .int (iI 1)), (2, .int (iI 1)), (0, .ref n0), (1, .int (iI ap))]) jb dX12_openAt_147 rfl (by decide) rfl ?_
                    refine j_aload_n jb dX12_openAt_148 2 rfl ?_
                    refine j_iload_n jb dX12_openAt_149 1 rfl ?_
                    refine j_iload_n jb dX12_openAt_150 0 rfl ?_
                    refine j_if_eq (tgt := 163) jb dX12_openAt_151 (by decide) (by decide) (fun h => absurd h (by decide)) (fun _ => ?_)
                    refine j_aload_n jb dX12_openAt_154 2 rfl ?_
                    refine j_get jb f_X12_247 dX12_openAt_155 0 rfl rfl ?_
                    refine j_iconst jb dX12_openAt_158 ?_
                    refine j_iadd jb dX12_openAt_159 ?_
                    refine j_goto (tgt := 167) jb dX12_openAt_160 (by decide) ?_
                    refine j_norm (lv' := [(0, .ref n0), (1, .int (iI ap)), (2, .int (iI 1))]) (st' := [.int (iI ((s9 + 1) + 1)), .int (iI 1), .ref n0]) (ws' := [(n0, oX12 th dp my sm st sz mo ms yb hpk pkr rt rk rx hsh si gt va vn wd wa re ua pkk pxx bp mk bi plR0 cdR0 (a9 + 1) (c9 + 1) t9 (s9 + 1) rki rea rby rsR0), (st, aI x.g 2400 B), (rea, aI x.g 800 rdR0), (rby, aI x.g 4 cbR0), (rki, aI x.g 2 (zup ki 0 kdR0))]) [2, 3, 1] [0, 1, 2, 3, 4] rfl rfl (by decide) rfl ?_
                    exact J167 ((s9 + 1) + 1) (by omega)
                · skip
                  refine j_iload_n jb dX12_openAt_118 0 rfl ?_
                  refine j_if_ne (tgt := 126) jb dX12_openAt_119 (by decide) (by decide) (fun _ => ?_) (fun h => absurd h (by decide))
                  refine j_iconst jb dX12_openAt_126 ?_
                  refine j_goto (tgt := 147) jb dX12_openAt_127 (by decide) ?_
                  refine j_istore_n (lv' := [(3, .int (iI 0)), (2, .int (iI 1)), (0, .ref n0), (1, .int (iI ap))]) jb dX12_openAt_147 rfl (by decide) rfl ?_
                  refine j_aload_n jb dX12_openAt_148 2 rfl ?_
                  refine j_iload_n jb dX12_openAt_149 1 rfl ?_
                  refine j_iload_n jb dX12_openAt_150 0 rfl ?_
                  refine j_if_eq (tgt := 163) jb dX12_openAt_151 (by decide) (by decide) (fun _ => ?_) (fun h => absurd h (by decide))
                  refine j_aload_n jb dX12_openAt_163 2 rfl ?_
                  refine j_get jb f_X12_247 dX12_openAt_164 0 rfl rfl ?_
                  refine j_norm (lv' := [(0, .ref n0), (1, .int (iI ap)), (2, .int (iI 1))]) (st' := [.int (iI (s9 + 1)), .int (iI 1), .ref n0]) (ws' := [(n0, oX12 th dp my sm st sz mo ms yb hpk pkr rt rk rx hsh si gt va vn wd wa re ua pkk pxx bp mk bi plR0 cdR0 (a9 + 1) (c9 + 1) t9 (s9 + 1) rki rea rby rsR0), (st, aI x.g 2400 B), (rea, aI x.g 800 rdR0), (rby, aI x.g 4 cbR0), (rki, aI x.g 2 (zup ki 0 kdR0))]) [2, 3, 1] [0, 1, 2, 3, 4] rfl rfl (by decide) rfl ?_
                  exact J167 (s9 + 1) (by omega)
          refine j_icmp_ne (tgt := 130) jb dX12_openAt_115 (by decide) (by omega) (by omega) (fun c_115 => ?_) (fun c_115 => ?_)
          · skip
            refine j_aload_n jb dX12_openAt_130 1 rfl ?_
            refine j_get jb f_X12_244 dX12_openAt_131 0 rfl rfl ?_
            refine j_if_le (tgt := 146) jb dX12_openAt_134 (by decide) (by omega) (fun c_134 => ?_) (fun c_134 => ?_)
            · skip
              refine j_iconst jb dX12_openAt_146 ?_
              refine j_istore_n (lv' := [(3, .int (iI 0)), (2, .int (iI 0)), (0, .ref n0), (1, .int (iI ap))]) jb dX12_openAt_147 rfl (by decide) rfl ?_
              refine j_aload_n jb dX12_openAt_148 2 rfl ?_
              refine j_iload_n jb dX12_openAt_149 1 rfl ?_
              refine j_iload_n jb dX12_openAt_150 0 rfl ?_
              refine j_if_eq (tgt := 163) jb dX12_openAt_151 (by decide) (by decide) (fun _ => ?_) (fun h => absurd h (by decide))
              refine j_aload_n jb dX12_openAt_163 2 rfl ?_
              refine j_get jb f_X12_247 dX12_openAt_164 0 rfl rfl ?_
              refine j_norm (lv' := [(0, .ref n0), (1, .int (iI ap)), (2, .int (iI 0))]) (st' := [.int (iI (s9 + 1)), .int (iI 0), .ref n0]) (ws' := [(n0, oX12 th dp my sm st sz mo ms yb hpk pkr rt rk rx hsh si gt va vn wd wa re ua pkk pxx bp mk bi pl6 cd6 (a9 + 1) (c9 + 1) t9 (s9 + 1) rki rea rby rsh), (st, aI x.g 2400 B), (rea, aI x.g 800 rd), (rby, aI x.g 4 cb), (rki, aI x.g 2 ki)]) [2, 3, 1] [0, 1, 2, 3, 4] rfl rfl (by decide) rfl ?_
              exact J167 (s9 + 1) (by omega)
            · skip
              refine j_iload_n jb dX12_openAt_137 0 rfl ?_
              refine j_iconst jb dX12_openAt_138 ?_
              refine j_icmp_ne (tgt := 146) jb dX12_openAt_139 (by decide) (by decide) (by decide) (fun _ => ?_) (fun h => absurd h (by decide))
              refine j_iconst jb dX12_openAt_146 ?_
              refine j_istore_n (lv' := [(3, .int (iI 0)), (2, .int (iI 0)), (0, .ref n0), (1, .int (iI ap))]) jb dX12_openAt_147 rfl (by decide) rfl ?_
              refine j_aload_n jb dX12_openAt_148 2 rfl ?_
              refine j_iload_n jb dX12_openAt_149 1 rfl ?_
              refine j_iload_n jb dX12_openAt_150 0 rfl ?_
              refine j_if_eq (tgt := 163) jb dX12_openAt_151 (by decide) (by decide) (fun _ => ?_) (fun h => absurd h (by decide))
              refine j_aload_n jb dX12_openAt_163 2 rfl ?_
              refine j_get jb f_X12_247 dX12_openAt_164 0 rfl rfl ?_
              refine j_norm (lv' := [(0, .ref n0), (1, .int (iI ap)), (2, .int (iI 0))]) (st' := [.int (iI (s9 + 1)), .int (iI 0), .ref n0]) (ws' := [(n0, oX12 th dp my sm st sz mo ms yb hpk pkr rt rk rx hsh si gt va vn wd wa re ua pkk pxx bp mk bi pl6 cd6 (a9 + 1) (c9 + 1) t9 (s9 + 1) rki rea rby rsh), (st, aI x.g 2400 B), (rea, aI x.g 800 rd), (rby, aI x.g 4 cb), (rki, aI x.g 2 ki)]) [2, 3, 1] [0, 1, 2, 3, 4] rfl rfl (by decide) rfl ?_
              exact J167 (s9 + 1) (by omega)
          · skip
            refine j_iload_n jb dX12_openAt_118 0 rfl ?_
            refine j_if_ne (tgt := 126) jb dX12_openAt_119 (by decide) (by decide) (fun h => absurd h (by decide)) (fun _ => ?_)
            refine j_iconst jb dX12_openAt_122 ?_
            refine j_goto (tgt := 147) jb dX12_openAt_123 (by decide) ?_
            refine j_istore_n (lv' := [(3, .int (iI 1)), (2, .int (iI 0)), (0, .ref n0), (1, .int (iI ap))]) jb dX12_openAt_147 rfl (by decide) rfl ?_
            refine j_aload_n jb dX12_openAt_148 2 rfl ?_
            refine j_iload_n jb dX12_openAt_149 1 rfl ?_
            refine j_iload_n jb dX12_openAt_150 0 rfl ?_
            refine j_if_eq (tgt := 163) jb dX12_openAt_151 (by decide) (by decide) (fun h => absurd h (by decide)) (fun _ => ?_)
            refine j_aload_n jb dX12_openAt_154 2 rfl ?_
            refine j_get jb f_X12_247 dX12_openAt_155 0 rfl rfl ?_
            refine j_iconst jb dX12_openAt_158 ?_
            refine j_iadd jb dX12_openAt_159 ?_
            refine j_goto (tgt := 167) jb dX12_openAt_160 (by decide) ?_
            refine j_norm (lv' := [(0, .ref n0), (1, .int (iI ap)), (2, .int (iI 0))]) (st' := [.int (iI ((s9 + 1) + 1)), .int (iI 0), .ref n0]) (ws' := [(n0, oX12 th dp my sm st sz mo ms yb hpk pkr rt rk rx hsh si gt va vn wd wa re ua pkk pxx bp mk bi pl6 cd6 (a9 + 1) (c9 + 1) t9 (s9 + 1) rki rea rby rsh), (st, aI x.g 2400 B), (rea, aI x.g 800 rd), (rby, aI x.g 4 cb), (rki, aI x.g 2 ki)]) [2, 3, 1] [0, 1, 2, 3, 4] rfl rfl (by decide) rfl ?_
            exact J167 ((s9 + 1) + 1) (by omega)
    refine j_icmp_ne (tgt := 81) jb dX12_openAt_66 (by decide) (by omega) (by omega) (fun c_66 => ?_) (fun c_66 => ?_)
    · skip
      refine j_norm (lv' := [(0, .ref n0), (1, .int (iI ap))]) (st' := []) (ws' := [(n0, oX12 th dp my sm st sz mo ms yb hpk pkr rt rk rx hsh si gt va vn wd wa re ua pkk pxx bp mk bi pl4 cd4 (a9 + 1) (c9 + 1) t9 rdp rki rea rby rsh), (st, aI x.g 2400 B), (rea, aI x.g 800 rd), (rby, aI x.g 4 cb), (rki, aI x.g 2 ki)]) [0, 1] [0, 1, 2, 3, 4] rfl rfl (by decide) rfl ?_
      exact J81 cd4 ⟨cI_flt hc54 (flt_no _ 3) (by decide) (Or.inr ⟨rfl, fun z => absurd z.1 (by omega)⟩), h54.2.1, fun z => ⟨fun y => absurd y c_66, z⟩⟩
    · skip
      refine j_aload_n jb dX12_openAt_69 0 rfl ?_
      refine j_get jb f_X12_244 dX12_openAt_70 0 rfl rfl ?_
      refine j_if_eq (tgt := 81) jb dX12_openAt_73 (by decide) (by omega) (fun c_73 => ?_) (fun c_73 => ?_)
      · skip
        refine j_norm (lv' := [(0, .ref n0), (1, .int (iI ap))]) (st' := []) (ws' := [(n0, oX12 th dp my sm st sz mo ms yb hpk pkr rt rk rx hsh si gt va vn wd wa re ua pkk pxx bp mk bi pl4 cd4 (a9 + 1) (c9 + 1) t9 rdp rki rea rby rsh), (st, aI x.g 2400 B), (rea, aI x.g 800 rd), (rby, aI x.g 4 cb), (rki, aI x.g 2 ki)]) [0, 1] [0, 1, 2, 3, 4] rfl rfl (by decide) rfl ?_
        exact J81 cd4 ⟨cI_flt hc54 (flt_no _ 3) (by decide) (Or.inr ⟨rfl, fun z => z.2 c_73⟩), h54.2.1, fun z => ⟨fun _ => c_73, z⟩⟩
      · skip
        refine j_aload_n jb dX12_openAt_76 0 rfl ?_
        refine j_iconst jb dX12_openAt_77 ?_
        refine j_callV (wr := [(st, aI x.g 2400 B), (rea, aI x.g 800 rd), (rby, aI x.g 4 cb), (rki, aI x.g 2 ki)]) jb k_X12_wrong i_X12_wrong s_X12_wrong l_X12_208 (C_X12_wrong x.l x.g n0 my sm st yb pkr rt rk rx si gt va re ua mk rki rea rby th dp sz mo ms hpk hsh vn wd wa pkk pxx bp bi pl4 cd4 (a9 + 1) (c9 + 1) t9 rdp rsh 3 (by omega)) 0 14 rfl rfl rfl [0] [1, 2, 3, 4] (by decide) rfl rfl (by decide) (by decide) rfl rfl (Nat.le_of_ble_eq_true rfl) (by decide) dX12_openAt_78 (fun v w hp => ?_)
        obtain ⟨cd5, rfl, rfl, h78⟩ := hp
        refine j_norm (lv' := [(0, .ref n0), (1, .int (iI ap))]) (st' := []) (ws' := [(n0, oX12 th dp my sm st sz mo ms yb hpk pkr rt rk rx hsh si gt va vn wd wa re ua pkk pxx bp mk bi pl4 cd5 (a9 + 1) (c9 + 1) t9 rdp rki rea rby rsh), (st, aI x.g 2400 B), (rea, aI x.g 800 rd), (rby, aI x.g 4 cb), (rki, aI x.g 2 ki)]) [0, 1] [4, 0, 1, 2, 3] rfl rfl (by decide) rfl ?_
        refine j_norm (lv' := [(0, .ref n0), (1, .int (iI ap))]) (st' := []) (ws' := [(n0, oX12 th dp my sm st sz mo ms yb hpk pkr rt rk rx hsh si gt va vn wd wa re ua pkk pxx bp mk bi pl4 cd5 (a9 + 1) (c9 + 1) t9 rdp rki rea rby rsh), (st, aI x.g 2400 B), (rea, aI x.g 800 rd), (rby, aI x.g 4 cb), (rki, aI x.g 2 ki)]) [0, 1] [0, 1, 2, 3, 4] rfl rfl (by decide) rfl ?_
        exact J81 cd5 ⟨cI_flt hc54 h78 (by decide) (Or.inl ⟨by decide, by omega, c_73⟩), flt_in h78 h54.2.1 (by decide), fun z => absurd (flt_0 h78 (by decide) z).1 (by decide)⟩
  refine j_icmp_le (tgt := 41) jb dX12_openAt_33 (by decide) (by omega) (by omega) (fun c_33 => ?_) (fun c_33 => ?_)
  · skip
    refine j_norm (lv' := [(0, .ref n0), (1, .int (iI ap))]) (st' := []) (ws' := [(n0, oX12 th dp my sm st sz mo ms yb hpk pkr rt rk rx hsh si gt va vn wd wa re ua pkk pxx bp mk bi pl1 cd1 (a9 + 1) rch rtn rdp rki rea rby rsh), (st, aI x.g 2400 B), (rea, aI x.g 800 rd), (rby, aI x.g 4 cb), (rki, aI x.g 2 ki)]) [0, 1] [0, 1, 2, 3, 4] rfl rfl (by decide) rfl ?_
    exact J41 cd1 ⟨cI_flt hc17 (flt_no _ 2) (by decide) (Or.inr ⟨rfl, by omega⟩), h17.2.1, fun z => ⟨by omega, z⟩⟩
  · skip
    refine j_aload_n jb dX12_openAt_36 0 rfl ?_
    refine j_iconst jb dX12_openAt_37 ?_
    refine j_callV (wr := [(st, aI x.g 2400 B), (rea, aI x.g 800 rd), (rby, aI x.g 4 cb), (rki, aI x.g 2 ki)]) jb k_X12_wrong i_X12_wrong s_X12_wrong l_X12_208 (C_X12_wrong x.l x.g n0 my sm st yb pkr rt rk rx si gt va re ua mk rki rea rby th dp sz mo ms hpk hsh vn wd wa pkk pxx bp bi pl1 cd1 (a9 + 1) rch rtn rdp rsh 2 (by omega)) 0 14 rfl rfl rfl [0] [1, 2, 3, 4] (by decide) rfl rfl (by decide) (by decide) rfl rfl (Nat.le_of_ble_eq_true rfl) (by decide) dX12_openAt_38 (fun v w hp => ?_)
    obtain ⟨cd2, rfl, rfl, h38⟩ := hp
    refine j_norm (lv' := [(0, .ref n0), (1, .int (iI ap))]) (st' := []) (ws' := [(n0, oX12 th dp my sm st sz mo ms yb hpk pkr rt rk rx hsh si gt va vn wd wa re ua pkk pxx bp mk bi pl1 cd2 (a9 + 1) rch rtn rdp rki rea rby rsh), (st, aI x.g 2400 B), (rea, aI x.g 800 rd), (rby, aI x.g 4 cb), (rki, aI x.g 2 ki)]) [0, 1] [4, 0, 1, 2, 3] rfl rfl (by decide) rfl ?_
    refine j_norm (lv' := [(0, .ref n0), (1, .int (iI ap))]) (st' := []) (ws' := [(n0, oX12 th dp my sm st sz mo ms yb hpk pkr rt rk rx hsh si gt va vn wd wa re ua pkk pxx bp mk bi pl1 cd2 (a9 + 1) rch rtn rdp rki rea rby rsh), (st, aI x.g 2400 B), (rea, aI x.g 800 rd), (rby, aI x.g 4 cb), (rki, aI x.g 2 ki)]) [0, 1] [0, 1, 2, 3, 4] rfl rfl (by decide) rfl ?_
    exact J41 cd2 ⟨cI_flt hc17 h38 (by decide) (Or.inl ⟨by decide, by omega⟩), flt_in h38 h17.2.1 (by decide), fun z => absurd (flt_0 h38 (by decide) z).1 (by decide)⟩

