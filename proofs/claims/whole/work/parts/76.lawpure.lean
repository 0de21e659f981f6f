set_option maxHeartbeats 4000000 in
set_option maxRecDepth 100000 in
theorem C_X12_coef2 (l : Launch) (g : GG) (n0 my sm st yb pkr rt rk rx si gt va re ua mk rki rea rby : Nat) (th dp sz mo ms hpk hsh vn wd wa pkk pxx bp bi pl cd rn rch rtn rdp rsh : Int) (o2 s2 al : Int) (oc : Int → Int) (h1 : inR o2) (h2 : inR s2) (hal : inL al) : Ctr l g yX12_coefficients cX12_coefficients 8 (some .int) 1 30 0 0 [.ref n0, .int (iI o2), .int (iI s2), .long (lI al)] [(n0, oX12 th dp my sm st sz mo ms yb hpk pkr rt rk rx hsh si gt va vn wd wa re ua pkk pxx bp mk bi pl cd rn rch rtn rdp rki rea rby rsh), (yb, aI g 4 oc)] (fun vv ww => ∃ (r mo2 ms2 : Int) (oc2 : Int → Int), vv = some (.int (iI r)) ∧ ww = [(n0, oX12 0 dp my sm st sz mo2 ms2 yb hpk pkr rt rk rx hsh si gt va vn wd wa re ua pkk pxx bp mk bi pl cd rn rch rtn rdp rki rea rby rsh), (yb, aI g 4 oc2)] ∧ ((¬ (0 ≤ o2 ∧ o2 ≤ 4) ∨ (¬ o2 = 0 ∧ ¬ (0 ≤ s2 ∧ s2 ≤ 15))) → r = -2 ∧ mo2 = mo ∧ ms2 = ms ∧ oc2 = oc) ∧ (¬ (¬ (0 ≤ o2 ∧ o2 ≤ 4) ∨ (¬ o2 = 0 ∧ ¬ (0 ≤ s2 ∧ s2 ≤ 15))) → r = mo ∧ mo2 = o2 ∧ (0 < o2 → ms2 = s2) ∧ (0 ≤ ms2 ∧ ms2 ≤ 15) ∧ (∀ j, 0 ≤ j → j < o2 → oc2 j = sgn (al / 2 ^ (j * 10).toNat) 10) ∧ (∀ j, o2 ≤ j → oc2 j = oc j))) := by
  refine Ctr.of [(0, .ref n0), (1, .int (iI o2)), (2, .int (iI s2)), (3, .long (lI al))] (by decide) (Nat.le_of_ble_eq_true rfl) rfl ?_
  intro x hxl hxg jb jr hin
  subst hxl; subst hxg
  refine j_aload_n jb dX12_coefficients_0 0 rfl ?_
  refine j_iconst jb dX12_coefficients_1 ?_
  refine j_put (ws' := [(n0, oX12 0 dp my sm st sz mo ms yb hpk pkr rt rk rx hsh si gt va vn wd wa re ua pkk pxx bp mk bi pl cd rn rch rtn rdp rki rea rby rsh), (yb, aI x.g 4 oc)]) jb f_X12_1 w_X12_0 rfl dX12_coefficients_2 0 rfl rfl rfl (Nat.le_of_ble_eq_true rfl) rfl ?_
  refine j_iload_n jb dX12_coefficients_5 1 rfl ?_
  refine j_i2l jb dX12_coefficients_6 (by omega) ?_
  refine j_lconst (z := 0) jb dX12_coefficients_7 rfl ?_
  refine j_ldc2 (z := 4) jb q_X12_82 rfl dX12_coefficients_8 ?_
  refine j_callS (wr := [(n0, oX12 0 dp my sm st sz mo ms yb hpk pkr rt rk rx hsh si gt va vn wd wa re ua pkk pxx bp mk bi pl cd rn rch rtn rdp rki rea rby rsh), (yb, aI x.g 4 oc)]) jb k_X12_in t_X12_in l_X12_72 (C_X12_in x.l x.g o2 0 4 (by omega) (by omega) (by omega)) [] [0, 1] (by decide) rfl rfl (by decide) (by decide) rfl rfl (Nat.le_of_ble_eq_true rfl) (by decide) dX12_coefficients_11 (fun v w hp => ?_)
  obtain ⟨rfl, rfl⟩ := hp
  refine j_norm (lv' := [(0, .ref n0), (1, .int (iI o2)), (2, .int (iI s2)), (3, .long (lI al))]) (st' := [.int (iI (b2i (0 ≤ o2 ∧ o2 ≤ 4)))]) (ws' := [(n0, oX12 0 dp my sm st sz mo ms yb hpk pkr rt rk rx hsh si gt va vn wd wa re ua pkk pxx bp mk bi pl cd rn rch rtn rdp rki rea rby rsh), (yb, aI x.g 4 oc)]) [0, 1, 2, 3] [0, 1] rfl rfl (by decide) rfl ?_
  refine j_ifb_eq (tgt := 33) jb dX12_coefficients_14 (by decide) (fun c_14 => ?_) (fun c_14 => ?_)
  · skip
    refine j_bipush jb dX12_coefficients_33 (by decide) ?_
    refine j_norm (lv' := []) (st' := [.int (iI (-2))]) (ws' := [(n0, oX12 0 dp my sm st sz mo ms yb hpk pkr rt rk rx hsh si gt va vn wd wa re ua pkk pxx bp mk bi pl cd rn rch rtn rdp rki rea rby rsh), (yb, aI x.g 4 oc)]) [] [0, 1] rfl rfl (by decide) rfl ?_
    exact j_iret jb jr dX12_coefficients_35 ⟨_, _, _, _, rfl, rfl, ⟨fun _ => ⟨rfl, rfl, rfl, rfl⟩, fun q => absurd (show (¬ (0 ≤ o2 ∧ o2 ≤ 4) ∨ (¬ o2 = 0 ∧ ¬ (0 ≤ s2 ∧ s2 ≤ 15))) by omega) q⟩⟩
  · skip
    refine j_iload_n jb dX12_coefficients_17 1 rfl ?_
    refine j_if_le (tgt := 36) jb dX12_coefficients_18 (by decide) (by omega) (fun c_18 => ?_) (fun c_18 => ?_)
    · skip
      refine j_aload_n jb dX12_coefficients_36 0 rfl ?_
      refine j_get jb f_X12_86 dX12_coefficients_37 0 rfl rfl ?_
      refine j_istore (lv' := [(5, .int (iI mo)), (0, .ref n0), (1, .int (iI o2)), (2, .int (iI s2)), (3, .long (lI al))]) jb dX12_coefficients_40 (by decide) rfl ?_
      refine j_aload_n jb dX12_coefficients_42 1 rfl ?_
      refine j_iload_n jb dX12_coefficients_43 2 rfl ?_
      refine j_put (ws' := [(n0, oX12 0 dp my sm st sz o2 ms yb hpk pkr rt rk rx hsh si gt va vn wd wa re ua pkk pxx bp mk bi pl cd rn rch rtn rdp rki rea rby rsh), (yb, aI x.g 4 oc)]) jb f_X12_86 w_X12_6 rfl dX12_coefficients_44 0 rfl rfl rfl (Nat.le_of_ble_eq_true rfl) rfl ?_
      refine j_aload_n jb dX12_coefficients_47 1 rfl ?_
      refine j_iload_n jb dX12_coefficients_48 2 rfl ?_
      have J57 : ∀ (ms2 : Int), ((0 < o2 → ms2 = s2) ∧ (0 ≤ ms2 ∧ ms2 ≤ 15)) → JW x 0 0 57 [(0, .ref n0), (1, .int (iI o2)), (2, .int (iI s2)), (3, .long (lI al)), (5, .int (iI mo))] [.int (iI ms2), .ref n0] [(n0, oX12 0 dp my sm st sz o2 ms yb hpk pkr rt rk rx hsh si gt va vn wd wa re ua pkk pxx bp mk bi pl cd rn rch rtn rdp rki rea rby rsh), (yb, aI x.g 4 oc)] := by
        intro ms2 hms
        refine j_put (ws' := [(n0, oX12 0 dp my sm st sz o2 ms2 yb hpk pkr rt rk rx hsh si gt va vn wd wa re ua pkk pxx bp mk bi pl cd rn rch rtn rdp rki rea rby rsh), (yb, aI x.g 4 oc)]) jb f_X12_89 w_X12_7 rfl dX12_coefficients_57 0 rfl rfl rfl (Nat.le_of_ble_eq_true rfl) rfl ?_
        refine j_iconst jb dX12_coefficients_60 ?_
        refine j_istore (lv' := [(6, .int (iI 0)), (0, .ref n0), (1, .int (iI o2)), (2, .int (iI s2)), (3, .long (lI al)), (5, .int (iI mo))]) jb dX12_coefficients_61 (by decide) rfl ?_
        have L63 : ∀ (fu : Nat) (i : Int) (c1 : Int → Int), (0 ≤ i ∧ i ≤ o2 ∧ (∀ j, 0 ≤ j → j < i → c1 j = sgn (al / 2 ^ (j * 10).toNat) 10) ∧ (∀ j, i ≤ j → c1 j = oc j)) → (o2 - i).toNat < fu → JW x 0 0 63 [(0, .ref n0), (1, .int (iI o2)), (2, .int (iI s2)), (3, .long (lI al)), (5, .int (iI mo)), (6, .int (iI i))] [] [(n0, oX12 0 dp my sm st sz o2 ms2 yb hpk pkr rt rk rx hsh si gt va vn wd wa re ua pkk pxx bp mk bi pl cd rn rch rtn rdp rki rea rby rsh), (yb, aI x.g 4 c1)] := by
          intro fu
          induction fu with
          | zero => intro i c1 _ hm; exact absurd hm (by omega)
          | succ fu ih =>
            intro i c1 ⟨hi1, hi2, hi3, hi4⟩ hm63
            have ih63 := ih
            clear ih
            refine j_iload jb dX12_coefficients_63 5 rfl ?_
            refine j_iload_n jb dX12_coefficients_65 1 rfl ?_
            refine j_icmp_ge (tgt := 115) jb dX12_coefficients_66 (by decide) (by omega) (by omega) (fun c_66 => ?_) (fun c_66 => ?_)
            · skip
              refine j_iload jb dX12_coefficients_115 4 rfl ?_
              refine j_norm (lv' := []) (st' := [.int (iI mo)]) (ws' := [(n0, oX12 0 dp my sm st sz o2 ms2 yb hpk pkr rt rk rx hsh si gt va vn wd wa re ua pkk pxx bp mk bi pl cd rn rch rtn rdp rki rea rby rsh), (yb, aI x.g 4 c1)]) [] [0, 1] rfl rfl (by decide) rfl ?_
              exact j_iret jb jr dX12_coefficients_117 ⟨_, _, _, _, rfl, rfl, ⟨fun q => absurd q (by omega), fun _ => ⟨rfl, rfl, hms.1, hms.2, fun j a b => hi3 j a (by omega), fun j a => hi4 j (by omega)⟩⟩⟩
            · skip
              refine j_lload_n jb dX12_coefficients_69 3 rfl ?_
              refine j_bipush jb dX12_coefficients_70 (by decide) ?_
              refine j_iload jb dX12_coefficients_72 5 rfl ?_
              refine j_imul jb dX12_coefficients_74 ?_
              refine j_lushr jb dX12_coefficients_75 (by omega) ?_
              refine j_l2i jb dX12_coefficients_76 ?_
              refine j_sipush jb dX12_coefficients_77 (by decide) ?_
              refine j_iand jb dX12_coefficients_80 ?_
              refine j_topi (al % 18446744073709551616 / 2 ^ (10 * i).toNat % 1024) (zAnd_1023 _) ?_
              refine j_geni (fun w9 e_w9 => ?_)
              refine j_istore (lv' := [(7, .int (iI w9)), (0, .ref n0), (1, .int (iI o2)), (2, .int (iI s2)), (3, .long (lI al)), (5, .int (iI mo)), (6, .int (iI i))]) jb dX12_coefficients_81 (by decide) rfl ?_
              have hw9 : 0 ≤ w9 ∧ w9 < 1024 := by omega
              refine j_aload_n jb dX12_coefficients_83 1 rfl ?_
              refine j_get jb f_X12_26 dX12_coefficients_84 0 rfl rfl ?_
              refine j_iload jb dX12_coefficients_87 6 rfl ?_
              refine j_iload jb dX12_coefficients_89 0 rfl ?_
              refine j_sipush jb dX12_coefficients_91 (by decide) ?_
              refine j_icmp_le (tgt := 106) jb dX12_coefficients_94 (by decide) (by omega) (by omega) (fun c_94 => ?_) (fun c_94 => ?_)
              · skip
                refine j_iload jb dX12_coefficients_106 0 rfl ?_
                refine j_iast (ws' := [(n0, oX12 0 dp my sm st sz o2 ms2 yb hpk pkr rt rk rx hsh si gt va vn wd wa re ua pkk pxx bp mk bi pl cd rn rch rtn rdp rki rea rby rsh), (yb, aI x.g 4 (zup c1 i w9))]) jb dX12_coefficients_108 1 rfl (by omega) (by decide) rfl ?_
                refine j_iinc (lv' := [(6, .int (iI (i + 1))), (7, .int (iI w9)), (0, .ref n0), (1, .int (iI o2)), (2, .int (iI s2)), (3, .long (lI al)), (5, .int (iI mo))]) jb dX12_coefficients_109 6 rfl (by decide) rfl ?_
                refine j_goto (tgt := 63) jb dX12_coefficients_112 (by decide) ?_
                refine j_norm (lv' := [(0, .ref n0), (1, .int (iI o2)), (2, .int (iI s2)), (3, .long (lI al)), (5, .int (iI mo)), (6, .int (iI (i + 1)))]) (st' := []) (ws' := [(n0, oX12 0 dp my sm st sz o2 ms2 yb hpk pkr rt rk rx hsh si gt va vn wd wa re ua pkk pxx bp mk bi pl cd rn rch rtn rdp rki rea rby rsh), (yb, aI x.g 4 (zup c1 i w9))]) [2, 3, 4, 5, 6, 0] [0, 1] rfl rfl (by decide) rfl ?_
                exact ih63 (i + 1) (zup c1 i w9) ⟨by omega, by omega, fun j a b => by (by_cases e : j = i); { rw [e, zup_s, ten_sgn _ w9 (by rw [e_w9, ten_bits _ _ hi1 (by omega)])]; first | (rw [if_pos (by omega)]; done) | (rw [if_neg (by omega)]; done) }; { rw [zup_n e]; exact hi3 j a (by omega) }, fun j a => by rw [zup_n (by omega)]; exact hi4 j (by omega)⟩ (by omega)
              · skip
                refine j_iload jb dX12_coefficients_97 0 rfl ?_
                refine j_sipush jb dX12_coefficients_99 (by decide) ?_
                refine j_isub jb dX12_coefficients_102 ?_
                refine j_goto (tgt := 108) jb dX12_coefficients_103 (by decide) ?_
                refine j_iast (ws' := [(n0, oX12 0 dp my sm st sz o2 ms2 yb hpk pkr rt rk rx hsh si gt va vn wd wa re ua pkk pxx bp mk bi pl cd rn rch rtn rdp rki rea rby rsh), (yb, aI x.g 4 (zup c1 i (w9 - 1024)))]) jb dX12_coefficients_108 1 rfl (by omega) (by decide) rfl ?_
                refine j_iinc (lv' := [(6, .int (iI (i + 1))), (7, .int (iI w9)), (0, .ref n0), (1, .int (iI o2)), (2, .int (iI s2)), (3, .long (lI al)), (5, .int (iI mo))]) jb dX12_coefficients_109 6 rfl (by decide) rfl ?_
                refine j_goto (tgt := 63) jb dX12_coefficients_112 (by decide) ?_
                refine j_norm (lv' := [(0, .ref n0), (1, .int (iI o2)), (2, .int (iI s2)), (3, .long (lI al)), (5, .int (iI mo)), (6, .int (iI (i + 1)))]) (st' := []) (ws' := [(n0, oX12 0 dp my sm st sz o2 ms2 yb hpk pkr rt rk rx hsh si gt va vn wd wa re ua pkk pxx bp mk bi pl cd rn rch rtn rdp rki rea rby rsh), (yb, aI x.g 4 (zup c1 i (w9 - 1024)))]) [2, 3, 4, 5, 6, 0] [0, 1] rfl rfl (by decide) rfl ?_
                exact ih63 (i + 1) (zup c1 i (w9 - 1024)) ⟨by omega, by omega, fun j a b => by (by_cases e : j = i); { rw [e, zup_s, ten_sgn _ w9 (by rw [e_w9, ten_bits _ _ hi1 (by omega)])]; first | (rw [if_pos (by omega)]; done) | (rw [if_neg (by omega)]; done) }; { rw [zup_n e]; exact hi3 j a (by omega) }, fun j a => by rw [zup_n (by omega)]; exact hi4 j (by omega)⟩ (by omega)
        refine j_norm (lv' := [(0, .ref n0), (1, .int (iI o2)), (2, .int (iI s2)), (3, .long (lI al)), (5, .int (iI mo)), (6, .int (iI 0))]) (st' := []) (ws' := [(n0, oX12 0 dp my sm st sz o2 ms2 yb hpk pkr rt rk rx hsh si gt va vn wd wa re ua pkk pxx bp mk bi pl cd rn rch rtn rdp rki rea rby rsh), (yb, aI x.g 4 oc)]) [1, 2, 3, 4, 5, 0] [0, 1] rfl rfl (by decide) rfl ?_
        exact L63 _ 0 oc ⟨by decide, by omega, fun j a b => by omega, fun _ _ => rfl⟩ (Nat.lt_succ_self _)
      refine j_if_le (tgt := 56) jb dX12_coefficients_49 (by decide) (by omega) (fun c_49 => ?_) (fun c_49 => ?_)
      · skip
        refine j_iconst jb dX12_coefficients_56 ?_
        refine j_norm (lv' := [(0, .ref n0), (1, .int (iI o2)), (2, .int (iI s2)), (3, .long (lI al)), (5, .int (iI mo))]) (st' := [.int (iI 0), .ref n0]) (ws' := [(n0, oX12 0 dp my sm st sz o2 ms yb hpk pkr rt rk rx hsh si gt va vn wd wa re ua pkk pxx bp mk bi pl cd rn rch rtn rdp rki rea rby rsh), (yb, aI x.g 4 oc)]) [1, 2, 3, 4, 0] [0, 1] rfl rfl (by decide) rfl ?_
        exact J57 0 ⟨fun q => absurd q (by omega), by decide⟩
      · skip
        refine j_iload_n jb dX12_coefficients_52 3 rfl ?_
        refine j_goto (tgt := 57) jb dX12_coefficients_53 (by decide) ?_
        refine j_norm (lv' := [(0, .ref n0), (1, .int (iI o2)), (2, .int (iI s2)), (3, .long (lI al)), (5, .int (iI mo))]) (st' := [.int (iI s2), .ref n0]) (ws' := [(n0, oX12 0 dp my sm st sz o2 ms yb hpk pkr rt rk rx hsh si gt va vn wd wa re ua pkk pxx bp mk bi pl cd rn rch rtn rdp rki rea rby rsh), (yb, aI x.g 4 oc)]) [1, 2, 3, 4, 0] [0, 1] rfl rfl (by decide) rfl ?_
        exact J57 s2 ⟨fun _ => rfl, by omega⟩
    · skip
      refine j_iload_n jb dX12_coefficients_21 2 rfl ?_
      refine j_i2l jb dX12_coefficients_22 (by omega) ?_
      refine j_lconst (z := 0) jb dX12_coefficients_23 rfl ?_
      refine j_ldc2 (z := 15) jb q_X12_84 rfl dX12_coefficients_24 ?_
      refine j_callS (wr := [(n0, oX12 0 dp my sm st sz mo ms yb hpk pkr rt rk rx hsh si gt va vn wd wa re ua pkk pxx bp mk bi pl cd rn rch rtn rdp rki rea rby rsh), (yb, aI x.g 4 oc)]) jb k_X12_in t_X12_in l_X12_72 (C_X12_in x.l x.g s2 0 15 (by omega) (by omega) (by omega)) [] [0, 1] (by decide) rfl rfl (by decide) (by decide) rfl rfl (Nat.le_of_ble_eq_true rfl) (by decide) dX12_coefficients_27 (fun v w hp => ?_)
      obtain ⟨rfl, rfl⟩ := hp
      refine j_norm (lv' := [(0, .ref n0), (1, .int (iI o2)), (2, .int (iI s2)), (3, .long (lI al))]) (st' := [.int (iI (b2i (0 ≤ s2 ∧ s2 ≤ 15)))]) (ws' := [(n0, oX12 0 dp my sm st sz mo ms yb hpk pkr rt rk rx hsh si gt va vn wd wa re ua pkk pxx bp mk bi pl cd rn rch rtn rdp rki rea rby rsh), (yb, aI x.g 4 oc)]) [0, 1, 2, 3] [0, 1] rfl rfl (by decide) rfl ?_
      refine j_ifb_ne (tgt := 36) jb dX12_coefficients_30 (by decide) (fun c_30 => ?_) (fun c_30 => ?_)
      · skip
        refine j_aload_n jb dX12_coefficients_36 0 rfl ?_
        refine j_get jb f_X12_86 dX12_coefficients_37 0 rfl rfl ?_
        refine j_istore (lv' := [(5, .int (iI mo)), (0, .ref n0), (1, .int (iI o2)), (2, .int (iI s2)), (3, .long (lI al))]) jb dX12_coefficients_40 (by decide) rfl ?_
        refine j_aload_n jb dX12_coefficients_42 1 rfl ?_
        refine j_iload_n jb dX12_coefficients_43 2 rfl ?_
        refine j_put (ws' := [(n0, oX12 0 dp my sm st sz o2 ms yb hpk pkr rt rk rx hsh si gt va vn wd wa re ua pkk pxx bp mk bi pl cd rn rch rtn rdp rki rea rby rsh), (yb, aI x.g 4 oc)]) jb f_X12_86 w_X12_6 rfl dX12_coefficients_44 0 rfl rfl rfl (Nat.le_of_ble_eq_true rfl) rfl ?_
        refine j_aload_n jb dX12_coefficients_47 1 rfl ?_
        refine j_iload_n jb dX12_coefficients_48 2 rfl ?_
        have J57 : ∀ (ms2 : Int), ((0 < o2 → ms2 = s2) ∧ (0 ≤ ms2 ∧ ms2 ≤ 15)) → JW x 0 0 57 [(0, .ref n0), (1, .int (iI o2)), (2, .int (iI s2)), (3, .long (lI al)), (5, .int (iI mo))] [.int (iI ms2), .ref n0] [(n0, oX12 0 dp my sm st sz o2 ms yb hpk pkr rt rk rx hsh si gt va vn wd wa re ua pkk pxx bp mk bi pl cd rn rch rtn rdp rki rea rby rsh), (yb, aI x.g 4 oc)] := by
          intro ms2 hms
          refine j_put (ws' := [(n0, oX12 0 dp my sm st sz o2 ms2 yb hpk pkr rt rk rx hsh si gt va vn wd wa re ua pkk pxx bp mk bi pl cd rn rch rtn rdp rki rea rby rsh), (yb, aI x.g 4 oc)]) jb f_X12_89 w_X12_7 rfl dX12_coefficients_57 0 rfl rfl rfl (Nat.le_of_ble_eq_true rfl) rfl ?_
          refine j_iconst jb dX12_coefficients_60 ?_
          refine j_istore (lv' := [(6, .int (iI 0)), (0, .ref n0), (1, .int (iI o2)), (2, .int (iI s2)), (3, .long (lI al)), (5, .int (iI mo))]) jb dX12_coefficients_61 (by decide) rfl ?_
          have L63 : ∀ (fu : Nat) (i : Int) (c1 : Int → Int), (0 ≤ i ∧ i ≤ o2 ∧ (∀ j, 0 ≤ j → j < i → c1 j = sgn (al / 2 ^ (j * 10).toNat) 10) ∧ (∀ j, i ≤ j → c1 j = oc j)) → (o2 - i).toNat < fu → JW x 0 0 63 [(0, .ref n0), (1, .int (iI o2)), (2, .int (iI s2)), (3, .long (lI al)), (5, .int (iI mo)), (6, .int (iI i))] [] [(n0, oX12 0 dp my sm st sz o2 ms2 yb hpk pkr rt rk rx hsh si gt va vn wd wa re ua pkk pxx bp mk bi pl cd rn rch rtn rdp rki rea rby rsh), (yb, aI x.g 4 c1)] := by
            intro fu
            induction fu with
            | zero => intro i c1 _ hm; exact absurd hm (by omega)
            | succ fu ih =>
              intro i c1 ⟨hi1, hi2, hi3, hi4⟩ hm63
              have ih63 := ih
              clear ih
              refine j_iload jb dX12_coefficients_63 5 rfl ?_
              refine j_iload_n jb dX12_coefficients_65 1 rfl ?_
              refine j_icmp_ge (tgt := 115) jb dX12_coefficients_66 (by decide) (by omega) (by omega) (fun c_66 => ?_) (fun c_66 => ?_)
              · skip
                refine j_iload jb dX12_coefficients_115 4 rfl ?_
                refine j_norm (lv' := []) (st' := [.int (iI mo)]) (ws' := [(n0, oX12 0 dp my sm st sz o2 ms2 yb hpk pkr rt rk rx hsh si gt va vn wd wa re ua pkk pxx bp mk bi pl cd rn rch rtn rdp rki rea rby rsh), (yb, aI x.g 4 c1)]) [] [0, 1] rfl rfl (by decide) rfl ?_
                exact j_iret jb jr dX12_coefficients_117 ⟨_, _, _, _, rfl, rfl, ⟨fun q => absurd q (by omega), fun _ => ⟨rfl, rfl, hms.1, hms.2, fun j a b => hi3 j a (by omega), fun j a => hi4 j (by omega)⟩⟩⟩
              · skip
                refine j_lload_n jb dX12_coefficients_69 3 rfl ?_
                refine j_bipush jb dX12_coefficients_70 (by decide) ?_
                refine j_iload jb dX12_coefficients_72 5 rfl ?_
                refine j_imul jb dX12_coefficients_74 ?_
                refine j_lushr jb dX12_coefficients_75 (by omega) ?_
                refine j_l2i jb dX12_coefficients_76 ?_
                refine j_sipush jb dX12_coefficients_77 (by decide) ?_
                refine j_iand jb dX12_coefficients_80 ?_
                refine j_topi (al % 18446744073709551616 / 2 ^ (10 * i).toNat % 1024) (zAnd_1023 _) ?_
                refine j_geni (fun w9 e_w9 => ?_)
                refine j_istore (lv' := [(7, .int (iI w9)), (0, .ref n0), (1, .int (iI o2)), (2, .int (iI s2)), (3, .long (lI al)), (5, .int (iI mo)), (6, .int (iI i))]) jb dX12_coefficients_81 (by decide) rfl ?_
                have hw9 : 0 ≤ w9 ∧ w9 < 1024 := by omega
                refine j_aload_n jb dX12_coefficients_83 1 rfl ?_
                refine j_get jb f_X12_26 dX12_coefficients_84 0 rfl rfl ?_
                refine j_iload jb dX12_coefficients_87 6 rfl ?_
                refine j_iload jb dX12_coefficients_89 0 rfl ?_
                refine j_sipush jb dX12_coefficients_91 (by decide) ?_
                refine j_icmp_le (tgt := 106) jb dX12_coefficients_94 (by decide) (by omega) (by omega) (fun c_94 => ?_) (fun c_94 => ?_)
                · skip
                  refine j_iload jb dX12_coefficients_106 0 rfl ?_
                  refine j_iast (ws' := [(n0, oX12 0 dp my sm st sz o2 ms2 yb hpk pkr rt rk rx hsh si gt va vn wd wa re ua pkk pxx bp mk bi pl cd rn rch rtn rdp rki rea rby rsh), (yb, aI x.g 4 (zup c1 i w9))]) jb dX12_coefficients_108 1 rfl (by omega) (by decide) rfl ?_
                  refine j_iinc (lv' := [(6, .int (iI (i + 1))), (7, .int (iI w9)), (0, .ref n0), (1, .int (iI o2)), (2, .int (iI s2)), (3, .long (lI al)), (5, .int (iI mo))]) jb dX12_coefficients_109 6 rfl (by decide) rfl ?_
                  refine j_goto (tgt := 63) jb dX12_coefficients_112 (by decide) ?_
                  refine j_norm (lv' := [(0, .ref n0), (1, .int (iI o2)), (2, .int (iI s2)), (3, .long (lI al)), (5, .int (iI mo)), (6, .int (iI (i + 1)))]) (st' := []) (ws' := [(n0, oX12 0 dp my sm st sz o2 ms2 yb hpk pkr rt rk rx hsh si gt va vn wd wa re ua pkk pxx bp mk bi pl cd rn rch rtn rdp rki rea rby rsh), (yb, aI x.g 4 (zup c1 i w9))]) [2, 3, 4, 5, 6, 0] [0, 1] rfl rfl (by decide) rfl ?_
                  exact ih63 (i + 1) (zup c1 i w9) ⟨by omega, by omega, fun j a b => by (by_cases e : j = i); { rw [e, zup_s, ten_sgn _ w9 (by rw [e_w9, ten_bits _ _ hi1 (by omega)])]; first | (rw [if_pos (by omega)]; done) | (rw [if_neg (by omega)]; done) }; { rw [zup_n e]; exact hi3 j a (by omega) }, fun j a => by rw [zup_n (by omega)]; exact hi4 j (by omega)⟩ (by omega)
                · skip
                  refine j_iload jb dX12_coefficients_97 0 rfl ?_
                  refine j_sipush jb dX12_coefficients_99 (by decide) ?_
                  refine j_isub jb dX12_coefficients_102 ?_
                  refine j_goto (tgt := 108) jb dX12_coefficients_103 (by decide) ?_
                  refine j_iast (ws' := [(n0, oX12 0 dp my sm st sz o2 ms2 yb hpk pkr rt rk rx hsh si gt va vn wd wa re ua pkk pxx bp mk bi pl cd rn rch rtn rdp rki rea rby rsh), (yb, aI x.g 4 (zup c1 i (w9 - 1024)))]) jb dX12_coefficients_108 1 rfl (by omega) (by decide) rfl ?_
                  refine j_iinc (lv' := [(6, .int (iI (i + 1))), (7, .int (iI w9)), (0, .ref n0), (1, .int (iI o2)), (2, .int (iI s2)), (3, .long (lI al)), (5, .int (iI mo))]) jb dX12_coefficients_109 6 rfl (by decide) rfl ?_
                  refine j_goto (tgt := 63) jb dX12_coefficients_112 (by decide) ?_
                  refine j_norm (lv' := [(0, .ref n0), (1, .int (iI o2)), (2, .int (iI s2)), (3, .long (lI al)), (5, .int (iI mo)), (6, .int (iI (i + 1)))]) (st' := []) (ws' := [(n0, oX12 0 dp my sm st sz o2 ms2 yb hpk pkr rt rk rx hsh si gt va vn wd wa re ua pkk pxx bp mk bi pl cd rn rch rtn rdp rki rea rby rsh), (yb, aI x.g 4 (zup c1 i (w9 - 1024)))]) [2, 3, 4, 5, 6, 0] [0, 1] rfl rfl (by decide) rfl ?_
                  exact ih63 (i + 1) (zup c1 i (w9 - 1024)) ⟨by omega, by omega, fun j a b => by (by_cases e : j = i); { rw [e, zup_s, ten_sgn _ w9 (by rw [e_w9, ten_bits _ _ hi1 (by omega)])]; first | (rw [if_pos (by omega)]; done) | (rw [if_neg (by omega)]; done) }; { rw [zup_n e]; exact hi3 j a (by omega) }, fun j a => by rw [zup_n (by omega)]; exact hi4 j (by omega)⟩ (by omega)
          refine j_norm (lv' := [(0, .ref n0), (1, .int (iI o2)), (2, .int (iI s2)), (3, .long (lI al)), (5, .int (iI mo)), (6, .int (iI 0))]) (st' := []) (ws' := [(n0, oX12 0 dp my sm st sz o2 ms2 yb hpk pkr rt rk rx hsh si gt va vn wd wa re ua pkk pxx bp mk bi pl cd rn rch rtn rdp rki rea rby rsh), (yb, aI x.g 4 oc)]) [1, 2, 3, 4, 5, 0] [0, 1] rfl rfl (by decide) rfl ?_
          exact L63 _ 0 oc ⟨by decide, by omega, fun j a b => by omega, fun _ _ => rfl⟩ (Nat.lt_succ_self _)
        refine j_if_le (tgt := 56) jb dX12_coefficients_49 (by decide) (by omega) (fun c_49 => ?_) (fun c_49 => ?_)
        · skip
          refine j_iconst jb dX12_coefficients_56 ?_
          refine j_norm (lv' := [(0, .ref n0), (1, .int (iI o2)), (2, .int (iI s2)), (3, .long (lI al)), (5, .int (iI mo))]) (st' := [.int (iI 0), .ref n0]) (ws' := [(n0, oX12 0 dp my sm st sz o2 ms yb hpk pkr rt rk rx hsh si gt va vn wd wa re ua pkk pxx bp mk bi pl cd rn rch rtn rdp rki rea rby rsh), (yb, aI x.g 4 oc)]) [1, 2, 3, 4, 0] [0, 1] rfl rfl (by decide) rfl ?_
          exact J57 0 ⟨fun q => absurd q (by omega), by decide⟩
        · skip
          refine j_iload_n jb dX12_coefficients_52 3 rfl ?_
          refine j_goto (tgt := 57) jb dX12_coefficients_53 (by decide) ?_
          refine j_norm (lv' := [(0, .ref n0), (1, .int (iI o2)), (2, .int (iI s2)), (3, .long (lI al)), (5, .int (iI mo))]) (st' := [.int (iI s2), .ref n0]) (ws' := [(n0, oX12 0 dp my sm st sz o2 ms yb hpk pkr rt rk rx hsh si gt va vn wd wa re ua pkk pxx bp mk bi pl cd rn rch rtn rdp rki rea rby rsh), (yb, aI x.g 4 oc)]) [1, 2, 3, 4, 0] [0, 1] rfl rfl (by decide) rfl ?_
          exact J57 s2 ⟨fun _ => rfl, by omega⟩
      · skip
        refine j_bipush jb dX12_coefficients_33 (by decide) ?_
        refine j_norm (lv' := []) (st' := [.int (iI (-2))]) (ws' := [(n0, oX12 0 dp my sm st sz mo ms yb hpk pkr rt rk rx hsh si gt va vn wd wa re ua pkk pxx bp mk bi pl cd rn rch rtn rdp rki rea rby rsh), (yb, aI x.g 4 oc)]) [] [0, 1] rfl rfl (by decide) rfl ?_
        exact j_iret jb jr dX12_coefficients_35 ⟨_, _, _, _, rfl, rfl, ⟨fun _ => ⟨rfl, rfl, rfl, rfl⟩, fun q => absurd (show (¬ (0 ≤ o2 ∧ o2 ≤ 4) ∨ (¬ o2 = 0 ∧ ¬ (0 ≤ s2 ∧ s2 ≤ 15))) by omega) q⟩⟩
def ivA (cn mn f0 f1 sm : Int → Int) (sb dp : Int) : Prop := ((0 ≤ cn 0 ∧ cn 0 ≤ 400) ∧ (0 ≤ cn 1 ∧ cn 1 ≤ 400)) ∧ (mn 0 = cn 0 ∧ mn 1 = cn 1) ∧ (1 ≤ sb ∧ sb ≤ 16) ∧ dp = sb ∧ (∀ j, 0 ≤ j → j < cn 0 → sm j = f0 j ∧ fit (f0 j) sb) ∧ (∀ j, 0 ≤ j → j < cn 1 → sm (400 + j) = f1 j ∧ fit (f1 j) sb)
def ivB (oo mo os ms : Int) (oc ob : Int → Int) : Prop := (0 ≤ oo ∧ oo ≤ 4) ∧ mo = oo ∧ (0 < oo → os = ms ∧ 0 ≤ os ∧ os ≤ 15) ∧ (0 ≤ ms ∧ ms ≤ 15) ∧ (∀ j, 0 ≤ j → j < oo → ob j = oc j) ∧ cfOk oc ∧ cfOk ob
def ivC (len sz : Int) (B Bm : Int → Int) : Prop := sz = len ∧ (0 ≤ len ∧ len ≤ 2400) ∧ eqOn B Bm 0 len ∧ isBytes B ∧ isBytes Bm
def ivD (un uch utn ubi ukd1 uws1 ub1 up1 ukd2 uws2 ub2 up2 : Int) (UK1 UX1 UK2 UX2 : Int → Int) (hpk : Int) (pp tt kk xk : Int → Int) : Prop :=
  ((0 ≤ hpk ∧ hpk ≤ 1) ∧ (un = 0 ↔ hpk = 0) ∧ (0 ≤ un ∧ un ≤ 400) ∧ (0 ≤ ubi ∧ ubi ≤ 1000000) ∧ (0 ≤ uch ∧ uch ≤ 2)) ∧ ((-1 ≤ up1 ∧ up1 ≤ 4) ∧ (-1 ≤ up2 ∧ up2 ≤ 4) ∧ (-1 ≤ tt 3 ∧ tt 3 ≤ 4) ∧ (-1 ≤ tt 7 ∧ tt 7 ≤ 4) ∧ inR (pp 1)) ∧
  (¬ un = 0 → (pp 0 = un ∧ pp 1 = uch ∧ pp 2 = utn ∧ pp 3 = ubi ∧ pp 4 = (ubi + 7) / 8 + 1) ∧ (uch = 1 ∨ uch = 2) ∧ ((tt 0 = ukd1 ∧ tt 1 = uws1 ∧ tt 2 = ub1 ∧ tt 3 = up1) ∧ ∀ j, 0 ≤ j → j < cparts up1 → kk j = UK1 j ∧ xk j = UX1 j) ∧ (uch = 2 → (tt 4 = ukd2 ∧ tt 5 = uws2 ∧ tt 6 = ub2 ∧ tt 7 = up2) ∧ ∀ j, 0 ≤ j → j < cparts up2 → kk (16 + j) = UK2 j ∧ xk (16 + j) = UX2 j))
def ivE (on och otn osb obh : Int) (okk e0 e1 : Int → Int) (hsh : Int) (hs gg : Int → Int) : Prop :=
  ((0 ≤ hsh ∧ hsh ≤ 1) ∧ (on = 0 ↔ hsh = 0) ∧ (0 ≤ on ∧ on ≤ 400) ∧ (0 ≤ och ∧ och ≤ 2) ∧ inR (hs 1)) ∧ (¬ on = 0 → (hs 0 = on ∧ hs 1 = och ∧ hs 2 = otn ∧ hs 3 = osb ∧ hs 4 = obh ∧ hs 5 = okk 0 ∧ hs 6 = okk 1) ∧ (och = 1 ∨ och = 2) ∧ (1 ≤ osb ∧ osb ≤ 16) ∧ (∀ j, 0 ≤ j → j < on → gg j = e0 j ∧ fit (e0 j) osb) ∧ (och = 2 → ∀ j, 0 ≤ j → j < on → gg (400 + j) = e1 j ∧ fit (e1 j) osb))
def ivF (rc cb M : Int → Int) (rsh : Int) : Prop := cfOk rc ∧ cfOk cb ∧ (0 ≤ rsh ∧ rsh ≤ 15) ∧ ∀ j, 0 ≤ j → j < 4000 → 0 ≤ M j ∧ M j < 256
theorem fit_16 {z b : Int} (hb : 1 ≤ b ∧ b ≤ 16) (h : fit z b) : -32768 ≤ z ∧ z < 32768 := by
  have p := pw_le (k := b - 1) 15 (by omega)
  rw [show (2 : Int) ^ 15 = 32768 by decide] at p
  have h1 := h.1
  have h2 := h.2
  omega
theorem ivA.f0 {cn mn f0 f1 sm : Int → Int} {sb dp : Int} (h : ivA cn mn f0 f1 sm sb dp) : ∀ j, 0 ≤ j → j < cn 0 → -32768 ≤ f0 j ∧ f0 j < 32768 := fun j a b => fit_16 h.2.2.1 (h.2.2.2.2.1 j a b).2
theorem ivA.f1 {cn mn f0 f1 sm : Int → Int} {sb dp : Int} (h : ivA cn mn f0 f1 sm sb dp) : ∀ j, 0 ≤ j → j < cn 1 → -32768 ≤ f1 j ∧ f1 j < 32768 := fun j a b => fit_16 h.2.2.1 (h.2.2.2.2.2 j a b).2
theorem ivA.s0 {cn mn f0 f1 sm : Int → Int} {sb dp : Int} (h : ivA cn mn f0 f1 sm sb dp) : ∀ j, 0 ≤ j → j < mn 0 → -32768 ≤ sm j ∧ sm j < 32768 := fun j a b => by rw [h.2.1.1] at b; rw [(h.2.2.2.2.1 j a b).1]; exact h.f0 j a b
theorem ivA.s1 {cn mn f0 f1 sm : Int → Int} {sb dp : Int} (h : ivA cn mn f0 f1 sm sb dp) : ∀ j, 0 ≤ j → j < mn 1 → -32768 ≤ sm (400 + j) ∧ sm (400 + j) < 32768 := fun j a b => by rw [h.2.1.2] at b; rw [(h.2.2.2.2.2 j a b).1]; exact h.f1 j a b
theorem ivA.mn {cn mn f0 f1 sm : Int → Int} {sb dp : Int} (h : ivA cn mn f0 f1 sm sb dp) : (0 ≤ mn 0 ∧ mn 0 ≤ 400) ∧ (0 ≤ mn 1 ∧ mn 1 ≤ 400) := by have h1 := h.1; have h2 := h.2.1; omega
theorem lc_depth {cn mn f0 f1 sm : Int → Int} {sb dp : Int} {b r sb2 s dp2 : Int} (hA : ivA cn mn f0 f1 sm sb dp) (h1 : ((¬ (1 ≤ b ∧ b ≤ 16) → r = -2 ∧ sb2 = sb) ∧ ((1 ≤ b ∧ b ≤ 16) ∧ (¬ cn 0 = 0 ∨ ¬ cn 1 = 0) → r = -3 ∧ sb2 = sb) ∧ ((1 ≤ b ∧ b ≤ 16) ∧ cn 0 = 0 ∧ cn 1 = 0 → r = sb ∧ sb2 = b))) (h2 : ((¬ (1 ≤ b ∧ b ≤ 16) → s = -2 ∧ dp2 = dp) ∧ ((1 ≤ b ∧ b ≤ 16) ∧ (¬ mn 0 = 0 ∨ ¬ mn 1 = 0) → s = -3 ∧ dp2 = dp) ∧ ((1 ≤ b ∧ b ≤ 16) ∧ mn 0 = 0 ∧ mn 1 = 0 → s = dp ∧ dp2 = b))) : r = s ∧ ivA cn mn f0 f1 sm sb2 dp2 := by
  obtain ⟨a1, a2, a3, a4, a5, a6⟩ := hA
  rw [a2.1, a2.2] at h2
  by_cases c : 1 ≤ b ∧ b ≤ 16
  · by_cases d : cn 0 = 0 ∧ cn 1 = 0
    · have z := h1.2.2 ⟨c, d.1, d.2⟩
      have y := h2.2.2 ⟨c, d.1, d.2⟩
      exact ⟨by omega, a1, a2, by omega, by omega, fun j x1 x2 => by omega, fun j x1 x2 => by omega⟩
    · have z := h1.2.1 ⟨c, by omega⟩
      have y := h2.2.1 ⟨c, by omega⟩
      rw [z.2, y.2]
      exact ⟨by omega, a1, a2, a3, a4, a5, a6⟩
  · have z := h1.1 c
    have y := h2.1 c
    rw [z.2, y.2]
    exact ⟨by omega, a1, a2, a3, a4, a5, a6⟩
theorem lc_sample {cn mn f0 f1 sm : Int → Int} {sb dp : Int} {ch z r s : Int} {cn2 e0 e1 mn2 sm2 : Int → Int} (hA : ivA cn mn f0 f1 sm sb dp) (h1 : (((¬ (0 ≤ ch ∧ ch < 2) ∨ ¬ fit z sb) → r = -2 ∧ cn2 = cn ∧ e0 = f0 ∧ e1 = f1) ∧ (¬ (¬ (0 ≤ ch ∧ ch < 2) ∨ ¬ fit z sb) ∧ 400 ≤ cn ch → r = -4 ∧ cn2 = cn ∧ e0 = f0 ∧ e1 = f1) ∧ (¬ (¬ (0 ≤ ch ∧ ch < 2) ∨ ¬ fit z sb) ∧ cn ch < 400 → r = cn ch + 1 ∧ cn2 = zup cn ch (cn ch + 1) ∧ (ch = 0 → e0 = zup f0 (cn 0) z ∧ e1 = f1) ∧ (ch = 1 → e0 = f0 ∧ e1 = zup f1 (cn 1) z)))) (h2 : (((¬ (0 ≤ ch ∧ ch < 2) ∨ ¬ fit z dp) → s = -2 ∧ mn2 = mn ∧ sm2 = sm) ∧ (¬ (¬ (0 ≤ ch ∧ ch < 2) ∨ ¬ fit z dp) ∧ 400 ≤ mn ch → s = -4 ∧ mn2 = mn ∧ sm2 = sm) ∧ (¬ (¬ (0 ≤ ch ∧ ch < 2) ∨ ¬ fit z dp) ∧ mn ch < 400 → s = mn ch + 1 ∧ mn2 = zup mn ch (mn ch + 1) ∧ sm2 = zup sm (400 * ch + mn ch) z))) : r = s ∧ ivA cn2 mn2 e0 e1 sm2 sb dp := by
  have hA0 := hA
  obtain ⟨a1, a2, a3, a4, a5, a6⟩ := hA
  rw [a4] at h2
  by_cases c : (¬ (0 ≤ ch ∧ ch < 2) ∨ ¬ fit z sb)
  · have x := h1.1 c
    have y := h2.1 c
    rw [x.2.1, x.2.2.1, x.2.2.2, y.2.1, y.2.2]
    exact ⟨by omega, hA0⟩
  · have hf : fit z sb := Decidable.by_contra (fun q => c (Or.inr q))
    have hch : ch = 0 ∨ ch = 1 := by
      by_cases q : 0 ≤ ch ∧ ch < 2
      · omega
      · exact absurd (Or.inl q) c
    have hm : mn ch = cn ch := by rcases hch with e | e <;> (rw [e]; omega)
    rw [hm] at h2
    by_cases d : 400 ≤ cn ch
    · have x := h1.2.1 ⟨c, d⟩
      have y := h2.2.1 ⟨c, d⟩
      rw [x.2.1, x.2.2.1, x.2.2.2, y.2.1, y.2.2]
      exact ⟨by omega, hA0⟩
    · have x := h1.2.2 ⟨c, by omega⟩
      have y := h2.2.2 ⟨c, by omega⟩
      refine ⟨by omega, ?_⟩
      rcases hch with e | e
      · subst e
        have x3 := x.2.2.1 rfl
        rw [x.2.1, x3.1, x3.2, y.2.1, y.2.2]
        refine ⟨by rw [zup_s, zup_n (by decide)]; omega, by rw [zup_s, zup_s, zup_n (by decide), zup_n (by decide)]; omega, a3, a4, fun j b1 b2 => ?_, fun j b1 b2 => ?_⟩
        · rw [zup_s] at b2
          by_cases q : j = cn 0
          · rw [q, show 400 * 0 + cn 0 = cn 0 by omega, zup_s, zup_s]; exact ⟨rfl, hf⟩
          · rw [zup_n q, zup_n (by omega)]; exact a5 j b1 (by omega)
        · rw [zup_n (by decide)] at b2
          rw [zup_n (by omega)]; exact a6 j b1 b2
      · subst e
        have x3 := x.2.2.2 rfl
        rw [x.2.1, x3.1, x3.2, y.2.1, y.2.2]
        refine ⟨by rw [zup_s, zup_n (by decide)]; omega, by rw [zup_s, zup_s, zup_n (by decide), zup_n (by decide)]; omega, a3, a4, fun j b1 b2 => ?_, fun j b1 b2 => ?_⟩
        · rw [zup_n (by decide)] at b2
          rw [zup_n (by omega)]; exact a5 j b1 b2
        · rw [zup_s] at b2
          by_cases q : j = cn 1
          · rw [q, show 400 + cn 1 = 400 * 1 + cn 1 by omega, zup_s, zup_s]; exact ⟨rfl, hf⟩
          · rw [zup_n q, zup_n (by omega)]; exact a6 j b1 (by omega)
theorem lc_drop {cn mn f0 f1 sm : Int → Int} {sb dp : Int} {ch r s : Int} {cn2 mn2 : Int → Int} (hA : ivA cn mn f0 f1 sm sb dp) (h1 : ((¬ (0 ≤ ch ∧ ch < 2) → r = -2 ∧ cn2 = cn) ∧ ((0 ≤ ch ∧ ch < 2) → r = cn ch ∧ cn2 = zup cn ch 0))) (h2 : ((¬ (0 ≤ ch ∧ ch < 2) → s = -2 ∧ mn2 = mn) ∧ ((0 ≤ ch ∧ ch < 2) → s = mn ch ∧ mn2 = zup mn ch 0))) : r = s ∧ ivA cn2 mn2 f0 f1 sm sb dp := by
  have hA0 := hA
  obtain ⟨a1, a2, a3, a4, a5, a6⟩ := hA
  by_cases c : 0 ≤ ch ∧ ch < 2
  · have x := h1.2 c
    have y := h2.2 c
    rcases (show ch = 0 ∨ ch = 1 by omega) with e | e
    · subst e
      rw [x.2, y.2]
      refine ⟨by omega, by rw [zup_s, zup_n (by decide)]; omega, by rw [zup_s, zup_s, zup_n (by decide), zup_n (by decide)]; omega, a3, a4, fun j b1 b2 => ?_, fun j b1 b2 => ?_⟩
      · rw [zup_s] at b2; omega
      · rw [zup_n (by decide)] at b2; exact a6 j b1 b2
    · subst e
      rw [x.2, y.2]
      refine ⟨by omega, by rw [zup_s, zup_n (by decide)]; omega, by rw [zup_s, zup_s, zup_n (by decide), zup_n (by decide)]; omega, a3, a4, fun j b1 b2 => ?_, fun j b1 b2 => ?_⟩
      · rw [zup_n (by decide)] at b2; exact a5 j b1 b2
      · rw [zup_s] at b2; omega
  · have x := h1.1 c
    have y := h2.1 c
    rw [x.2, y.2]
    exact ⟨by omega, hA0⟩
theorem cf_sgn {oc oc2 : Int → Int} {al o2 : Int} (h : cfOk oc) (h1 : ∀ j, 0 ≤ j → j < o2 → oc2 j = sgn (al / 2 ^ (j * 10).toNat) 10) (h2 : ∀ j, o2 ≤ j → oc2 j = oc j) : cfOk oc2 := by
  intro j a b
  by_cases c : j < o2
  · rw [h1 j a c]
    have z := sgn_fit (v := al / 2 ^ (j * 10).toNat) (b := 10) (by decide)
    have z1 : -(2 : Int) ^ 9 ≤ sgn (al / 2 ^ (j * 10).toNat) 10 := z.1
    have z2 : sgn (al / 2 ^ (j * 10).toNat) 10 < 2 ^ 9 := z.2
    rw [show (2 : Int) ^ 9 = 512 by decide] at z1 z2
    omega
  · rw [h2 j (by omega)]; exact h j a b
theorem lc_coef {oo mo os ms : Int} {oc ob : Int → Int} {o2 s2 al r oo2 os2 s mo2 ms2 : Int} {oc2 ob2 : Int → Int} (hB : ivB oo mo os ms oc ob) (h1 : (((¬ (0 ≤ o2 ∧ o2 ≤ 4) ∨ (¬ o2 = 0 ∧ ¬ (0 ≤ s2 ∧ s2 ≤ 15))) → r = -2 ∧ oo2 = oo ∧ os2 = os ∧ oc2 = oc) ∧ (¬ (¬ (0 ≤ o2 ∧ o2 ≤ 4) ∨ (¬ o2 = 0 ∧ ¬ (0 ≤ s2 ∧ s2 ≤ 15))) → r = oo ∧ oo2 = o2 ∧ os2 = s2 ∧ (∀ j, 0 ≤ j → j < o2 → oc2 j = sgn (al / 2 ^ (j * 10).toNat) 10) ∧ (∀ j, o2 ≤ j → oc2 j = oc j)))) (h2 : (((¬ (0 ≤ o2 ∧ o2 ≤ 4) ∨ (¬ o2 = 0 ∧ ¬ (0 ≤ s2 ∧ s2 ≤ 15))) → s = -2 ∧ mo2 = mo ∧ ms2 = ms ∧ ob2 = ob) ∧ (¬ (¬ (0 ≤ o2 ∧ o2 ≤ 4) ∨ (¬ o2 = 0 ∧ ¬ (0 ≤ s2 ∧ s2 ≤ 15))) → s = mo ∧ mo2 = o2 ∧ (0 < o2 → ms2 = s2) ∧ (0 ≤ ms2 ∧ ms2 ≤ 15) ∧ (∀ j, 0 ≤ j → j < o2 → ob2 j = sgn (al / 2 ^ (j * 10).toNat) 10) ∧ (∀ j, o2 ≤ j → ob2 j = ob j)))) : r = s ∧ ivB oo2 mo2 os2 ms2 oc2 ob2 := by
  have hB0 := hB
  obtain ⟨b1, b2, b3, b4, b5, b6, b7⟩ := hB
  by_cases c : (¬ (0 ≤ o2 ∧ o2 ≤ 4) ∨ (¬ o2 = 0 ∧ ¬ (0 ≤ s2 ∧ s2 ≤ 15)))
  · have x := h1.1 c
    have y := h2.1 c
    rw [x.2.1, x.2.2.1, x.2.2.2, y.2.1, y.2.2.1, y.2.2.2]
    exact ⟨by omega, hB0⟩
  · have x := h1.2 c
    have y := h2.2 c
    refine ⟨by omega, by omega, by omega, fun q => by have := y.2.2.1 (by omega); omega, y.2.2.2.1, fun j a1 a2 => ?_, cf_sgn b6 x.2.2.2.1 x.2.2.2.2, cf_sgn b7 y.2.2.2.2.1 y.2.2.2.2.2⟩
    rw [x.2.2.2.1 j a1 (by omega), y.2.2.2.2.1 j a1 (by omega)]
theorem by_up {B : Int → Int} {i b : Int} (h : isBytes B) (hb : 0 ≤ b ∧ b ≤ 255) : isBytes (zup B i b) := by
  intro j a c
  by_cases e : j = i
  · rw [e, zup_s]; omega
  · rw [zup_n e]; exact h j a c
theorem eq_up {B Bm : Int → Int} {i b n m : Int} (h : eqOn B Bm 0 n) (hm : m ≤ n ∨ (m = n + 1 ∧ i = n)) : eqOn (zup B i b) (zup Bm i b) 0 m := by
  intro j a c
  by_cases e : j = i
  · rw [e, zup_s, zup_s]
  · rw [zup_n e, zup_n e]; exact h j a (by omega)
theorem lc_at {len sz : Int} {B Bm : Int → Int} {i r s : Int} (hC : ivC len sz B Bm) (h1 : (((0 ≤ i ∧ i < len) → r = B i) ∧ (¬ (0 ≤ i ∧ i < len) → r = -2))) (h2 : (((0 ≤ i ∧ i < sz) → s = Bm i) ∧ (¬ (0 ≤ i ∧ i < sz) → s = -2))) : r = s := by
  obtain ⟨c1, c2, c3, c4, c5⟩ := hC
  rw [c1] at h2
  by_cases c : 0 ≤ i ∧ i < len
  · rw [h1.1 c, h2.1 c]; exact c3 i c.1 c.2
  · rw [h1.2 c, h2.2 c]
theorem lc_alter {len sz : Int} {B Bm : Int → Int} {i b r s : Int} {B2 Bm2 : Int → Int} (hC : ivC len sz B Bm) (h1 : (((0 ≤ i ∧ i < len) ∧ (0 ≤ b ∧ b ≤ 255) → r = B i ∧ B2 = zup B i b) ∧ (¬ ((0 ≤ i ∧ i < len) ∧ (0 ≤ b ∧ b ≤ 255)) → r = -2 ∧ B2 = B))) (h2 : (((0 ≤ i ∧ i < sz) ∧ (0 ≤ b ∧ b ≤ 255) → s = Bm i ∧ Bm2 = zup Bm i b) ∧ (¬ ((0 ≤ i ∧ i < sz) ∧ (0 ≤ b ∧ b ≤ 255)) → s = -2 ∧ Bm2 = Bm))) : r = s ∧ ivC len sz B2 Bm2 := by
  have hC0 := hC
  obtain ⟨c1, c2, c3, c4, c5⟩ := hC
  rw [c1] at h2
  by_cases c : (0 ≤ i ∧ i < len) ∧ (0 ≤ b ∧ b ≤ 255)
  · have x := h1.1 c
    have y := h2.1 c
    rw [x.1, y.1, x.2, y.2]
    exact ⟨c3 i c.1.1 c.1.2, c1, c2, eq_up c3 (Or.inl (Int.le_refl _)), by_up c4 c.2, by_up c5 c.2⟩
  · have x := h1.2 c
    have y := h2.2 c
    rw [x.2, y.2]
    exact ⟨by omega, hC0⟩
theorem lc_add {len sz : Int} {B Bm : Int → Int} {b r len2 s sz2 : Int} {B2 Bm2 : Int → Int} (hC : ivC len sz B Bm) (h1 : ((¬ (0 ≤ b ∧ b ≤ 255) → r = -2 ∧ len2 = len ∧ B2 = B) ∧ ((0 ≤ b ∧ b ≤ 255) ∧ 2400 ≤ len → r = -4 ∧ len2 = len ∧ B2 = B) ∧ ((0 ≤ b ∧ b ≤ 255) ∧ len < 2400 → r = len + 1 ∧ len2 = len + 1 ∧ B2 = zup B len b))) (h2 : ((¬ (0 ≤ b ∧ b ≤ 255) → s = -2 ∧ sz2 = sz ∧ Bm2 = Bm) ∧ ((0 ≤ b ∧ b ≤ 255) ∧ 2400 ≤ sz → s = -4 ∧ sz2 = sz ∧ Bm2 = Bm) ∧ ((0 ≤ b ∧ b ≤ 255) ∧ sz < 2400 → s = sz + 1 ∧ sz2 = sz + 1 ∧ Bm2 = zup Bm sz b))) : r = s ∧ ivC len2 sz2 B2 Bm2 := by
  have hC0 := hC
  obtain ⟨c1, c2, c3, c4, c5⟩ := hC
  rw [c1] at h2
  by_cases c : 0 ≤ b ∧ b ≤ 255
  · by_cases d : 2400 ≤ len
    · have x := h1.2.1 ⟨c, d⟩
      have y := h2.2.1 ⟨c, d⟩
      rw [x.2.1, x.2.2, y.2.1, y.2.2]
      exact ⟨by omega, rfl, c2, c3, c4, c5⟩
    · have x := h1.2.2 ⟨c, by omega⟩
      have y := h2.2.2 ⟨c, by omega⟩
      rw [x.2.1, x.2.2, y.2.1, y.2.2]
      exact ⟨by omega, rfl, by omega, eq_up c3 (Or.inr ⟨rfl, rfl⟩), by_up c4 c, by_up c5 c⟩
  · have x := h1.1 c
    have y := h2.1 c
    rw [x.2.1, x.2.2, y.2.1, y.2.2]
    exact ⟨by omega, rfl, c2, c3, c4, c5⟩
theorem lc_cut {len sz : Int} {B Bm : Int → Int} {n r len2 s sz2 : Int} (hC : ivC len sz B Bm) (h1 : ((¬ (0 ≤ n ∧ n ≤ len) → r = -2 ∧ len2 = len) ∧ ((0 ≤ n ∧ n ≤ len) → r = len - n ∧ len2 = n))) (h2 : ((¬ (0 ≤ n ∧ n ≤ sz) → s = -2 ∧ sz2 = sz) ∧ ((0 ≤ n ∧ n ≤ sz) → s = sz - n ∧ sz2 = n))) : r = s ∧ ivC len2 sz2 B Bm := by
  have hC0 := hC
  obtain ⟨c1, c2, c3, c4, c5⟩ := hC
  rw [c1] at h2
  by_cases c : 0 ≤ n ∧ n ≤ len
  · have x := h1.2 c
    have y := h2.2 c
    rw [x.2, y.2]
    exact ⟨by omega, rfl, by omega, fun j a b => c3 j a (by omega), c4, c5⟩
  · have x := h1.1 c
    have y := h2.1 c
    rw [x.2, y.2]
    exact ⟨by omega, rfl, c2, c3, c4, c5⟩
theorem lc_told {un uch utn ubi ukd1 uws1 ub1 up1 ukd2 uws2 ub2 up2 hpk : Int} {UK1 UX1 UK2 UX2 pp tt kk xk : Int → Int} {wh r s : Int} (hD : ivD un uch utn ubi ukd1 uws1 ub1 up1 ukd2 uws2 ub2 up2 UK1 UX1 UK2 UX2 hpk pp tt kk xk) (h1 : ((¬ (0 ≤ wh ∧ wh ≤ 4) → r = -2) ∧ ((0 ≤ wh ∧ wh ≤ 4) ∧ un = 0 → r = -3) ∧ (¬ un = 0 → (wh = 0 → r = un) ∧ (wh = 1 → r = uch) ∧ (wh = 2 → r = utn) ∧ (wh = 3 → r = ubi) ∧ (wh = 4 → r = (ubi + 7) / 8 + 1)))) (h2 : ((¬ (0 ≤ wh ∧ wh ≤ 4) → s = -2) ∧ ((0 ≤ wh ∧ wh ≤ 4) ∧ hpk = 0 → s = -3) ∧ ((0 ≤ wh ∧ wh ≤ 4) ∧ ¬ hpk = 0 → s = pp wh))) : r = s := by
  obtain ⟨⟨d1, d2, d3, d4, d5⟩, d6, d7⟩ := hD
  by_cases c : 0 ≤ wh ∧ wh ≤ 4
  · by_cases d : un = 0
    · have := h1.2.1 ⟨c, d⟩
      have := h2.2.1 ⟨c, d2.mp d⟩
      omega
    · obtain ⟨p, _⟩ := d7 d
      have x := h1.2.2 d
      have y := h2.2.2 ⟨c, fun q => d (d2.mpr q)⟩
      rcases (show wh = 0 ∨ wh = 1 ∨ wh = 2 ∨ wh = 3 ∨ wh = 4 by omega) with e | e | e | e | e
      · subst e; have := x.1 rfl; omega
      · subst e; have := x.2.1 rfl; omega
      · subst e; have := x.2.2.1 rfl; omega
      · subst e; have := x.2.2.2.1 rfl; omega
      · subst e; have := x.2.2.2.2 rfl; omega
  · have := h1.1 c
    have := h2.1 c
    omega
theorem rowV_cg {kd ws b p wh : Int} {K X L Y : Int → Int} (h : ∀ j, 0 ≤ j → j < cparts p → K j = L j ∧ X j = Y j) (hw : ((10 ≤ wh ∧ wh < 26) ∨ (30 ≤ wh ∧ wh < 46)) ∨ (0 ≤ wh ∧ wh ≤ 3)) : rowV kd ws b p K X wh = rowV kd ws b p L Y wh := by
  unfold rowV
  by_cases c0 : wh = 0
  · rw [if_pos c0, if_pos c0]
  · rw [if_neg c0, if_neg c0]
    by_cases c1 : wh = 1
    · rw [if_pos c1, if_pos c1]
    · rw [if_neg c1, if_neg c1]
      by_cases c2 : wh = 2
      · rw [if_pos c2, if_pos c2]
      · rw [if_neg c2, if_neg c2]
        by_cases c3 : wh = 3
        · rw [if_pos c3, if_pos c3]
        · rw [if_neg c3, if_neg c3]
          by_cases c4 : wh < 30
          · rw [if_pos c4, if_pos c4]
            by_cases c5 : cparts p ≤ wh - 10
            · rw [if_pos c5, if_pos c5]
            · rw [if_neg c5, if_neg c5]; exact (h (wh - 10) (by omega) (by omega)).1
          · rw [if_neg c4, if_neg c4]
            by_cases c5 : cparts p ≤ wh - 30
            · rw [if_pos c5, if_pos c5]
            · rw [if_neg c5, if_neg c5]; exact (h (wh - 30) (by omega) (by omega)).2
theorem lc_row {un uch utn ubi ukd1 uws1 ub1 up1 ukd2 uws2 ub2 up2 hpk : Int} {UK1 UX1 UK2 UX2 pp tt kk xk : Int → Int} {rr wh r s : Int} (hD : ivD un uch utn ubi ukd1 uws1 ub1 up1 ukd2 uws2 ub2 up2 UK1 UX1 UK2 UX2 hpk pp tt kk xk) (h1 : (((¬ (0 ≤ rr ∧ rr < 2) ∨ ¬ (((10 ≤ wh ∧ wh < 26) ∨ (30 ≤ wh ∧ wh < 46)) ∨ (0 ≤ wh ∧ wh ≤ 3))) → r = -2) ∧ (¬ (¬ (0 ≤ rr ∧ rr < 2) ∨ ¬ (((10 ≤ wh ∧ wh < 26) ∨ (30 ≤ wh ∧ wh < 46)) ∨ (0 ≤ wh ∧ wh ≤ 3))) ∧ un = 0 → r = -3) ∧ (¬ (¬ (0 ≤ rr ∧ rr < 2) ∨ ¬ (((10 ≤ wh ∧ wh < 26) ∨ (30 ≤ wh ∧ wh < 46)) ∨ (0 ≤ wh ∧ wh ≤ 3))) ∧ ¬ un = 0 ∧ uch ≤ rr → r = -2) ∧ (¬ (¬ (0 ≤ rr ∧ rr < 2) ∨ ¬ (((10 ≤ wh ∧ wh < 26) ∨ (30 ≤ wh ∧ wh < 46)) ∨ (0 ≤ wh ∧ wh ≤ 3))) ∧ ¬ un = 0 ∧ rr < uch → (rr = 0 → r = rowV ukd1 uws1 ub1 up1 UK1 UX1 wh) ∧ (rr = 1 → r = rowV ukd2 uws2 ub2 up2 UK2 UX2 wh)))) (h2 : (((¬ (0 ≤ rr ∧ rr < 2) ∨ ¬ (((10 ≤ wh ∧ wh < 26) ∨ (30 ≤ wh ∧ wh < 46)) ∨ (0 ≤ wh ∧ wh ≤ 3))) → s = -2) ∧ (¬ (¬ (0 ≤ rr ∧ rr < 2) ∨ ¬ (((10 ≤ wh ∧ wh < 26) ∨ (30 ≤ wh ∧ wh < 46)) ∨ (0 ≤ wh ∧ wh ≤ 3))) ∧ hpk = 0 → s = -3) ∧ (¬ (¬ (0 ≤ rr ∧ rr < 2) ∨ ¬ (((10 ≤ wh ∧ wh < 26) ∨ (30 ≤ wh ∧ wh < 46)) ∨ (0 ≤ wh ∧ wh ≤ 3))) ∧ ¬ hpk = 0 ∧ pp 1 ≤ rr → s = -2) ∧ (¬ (¬ (0 ≤ rr ∧ rr < 2) ∨ ¬ (((10 ≤ wh ∧ wh < 26) ∨ (30 ≤ wh ∧ wh < 46)) ∨ (0 ≤ wh ∧ wh ≤ 3))) ∧ ¬ hpk = 0 ∧ rr < pp 1 → s = rowV (tt (4 * rr)) (tt (4 * rr + 1)) (tt (4 * rr + 2)) (tt (4 * rr + 3)) (fun j => kk (16 * rr + j)) (fun j => xk (16 * rr + j)) wh))) : r = s := by
  obtain ⟨⟨d1, d2, d3, d4, d5⟩, d6, d7⟩ := hD
  by_cases c : (¬ (0 ≤ rr ∧ rr < 2) ∨ ¬ (((10 ≤ wh ∧ wh < 26) ∨ (30 ≤ wh ∧ wh < 46)) ∨ (0 ≤ wh ∧ wh ≤ 3)))
  · have := h1.1 c
    have := h2.1 c
    omega
  · have hw : ((10 ≤ wh ∧ wh < 26) ∨ (30 ≤ wh ∧ wh < 46)) ∨ (0 ≤ wh ∧ wh ≤ 3) := by omega
    by_cases d : un = 0
    · have := h1.2.1 ⟨c, d⟩
      have := h2.2.1 ⟨c, d2.mp d⟩
      omega
    · obtain ⟨p, p2, p3, p4⟩ := d7 d
      have hh : ¬ hpk = 0 := fun q => d (d2.mpr q)
      by_cases e : uch ≤ rr
      · have := h1.2.2.1 ⟨c, d, e⟩
        have := h2.2.2.1 ⟨c, hh, by omega⟩
        omega
      · have x := h1.2.2.2 ⟨c, d, by omega⟩
        have y := h2.2.2.2 ⟨c, hh, by omega⟩
        rcases (show rr = 0 ∨ rr = 1 by omega) with z | z
        · subst z
          rw [x.1 rfl, y]
          obtain ⟨⟨t0, t1, t2, t3⟩, t4⟩ := p3
          rw [← t0, ← t1, ← t2, ← t3]
          exact (rowV_cg (fun j a b => by have w := t4 j a (by rw [← t3]; exact b); rw [show 16 * 0 + j = j by omega]; exact w) hw).symm
        · subst z
          rw [x.2 rfl, y]
          obtain ⟨⟨t0, t1, t2, t3⟩, t4⟩ := p4 (by omega)
          rw [← t0, ← t1, ← t2, ← t3]
          exact (rowV_cg (fun j a b => by have w := t4 j a (by rw [← t3]; exact b); rw [show 16 * 1 + j = 16 + j by omega]; exact w) hw).symm
theorem lc_price {cn mn f0 f1 sm : Int → Int} {sb dp : Int} {oo mo os ms : Int} {oc ob : Int → Int} {ch kind r s : Int} (hA : ivA cn mn f0 f1 sm sb dp) (hB : ivB oo mo os ms oc ob) (h1 : (((¬ (0 ≤ ch ∧ ch < 2) ∨ ¬ (0 ≤ kind ∧ kind < 8) ∨ cn ch = 0) → r = -2) ∧ (¬ (¬ (0 ≤ ch ∧ ch < 2) ∨ ¬ (0 ≤ kind ∧ kind < 8) ∨ cn ch = 0) → (ch = 0 → prA f0 (cn 0) sb oo os oc kind r) ∧ (ch = 1 → prA f1 (cn 1) sb oo os oc kind r)))) (h2 : (((¬ (0 ≤ ch ∧ ch < 2) ∨ ¬ (0 ≤ kind ∧ kind < 8) ∨ mn ch = 0) → s = -2) ∧ (¬ (¬ (0 ≤ ch ∧ ch < 2) ∨ ¬ (0 ≤ kind ∧ kind < 8) ∨ mn ch = 0) → prA (fun j => sm (400 * ch + j)) (mn ch) dp mo ms ob kind s))) : r = s := by
  obtain ⟨a1, a2, a3, a4, a5, a6⟩ := hA
  obtain ⟨b1, b2, b3, b4, b5, b6, b7⟩ := hB
  rw [a4, b2] at h2
  by_cases k : 0 ≤ ch ∧ ch < 2
  · have hm : mn ch = cn ch := by rcases (show ch = 0 ∨ ch = 1 by omega) with e | e <;> (rw [e]; omega)
    rw [hm] at h2
    by_cases c : (¬ (0 ≤ ch ∧ ch < 2) ∨ ¬ (0 ≤ kind ∧ kind < 8) ∨ cn ch = 0)
    · rw [h1.1 c, h2.1 c]
    · have x := h1.2 c
      have y := h2.2 c
      rcases (show ch = 0 ∨ ch = 1 by omega) with e | e
      · subst e
        exact prA_uni (by omega) b1.1 (by omega) (fun j p q => by rw [show 400 * 0 + j = j by omega]; exact (a5 j p q).1.symm) (fun q => (b3 q).1) (fun j p q => (b5 j p q).symm) (x.1 rfl) y
      · subst e
        exact prA_uni (by omega) b1.1 (by omega) (fun j p q => by rw [show 400 * 1 + j = 400 + j by omega]; exact (a6 j p q).1.symm) (fun q => (b3 q).1) (fun j p q => (b5 j p q).symm) (x.2 rfl) y
  · rw [h1.1 (Or.inl k), h2.1 (Or.inl k)]
theorem lc_shown {on och otn osb obh hsh : Int} {okk e0 e1 hs gg : Int → Int} {wh r s : Int} (hE : ivE on och otn osb obh okk e0 e1 hsh hs gg) (h1 : ((¬ (0 ≤ wh ∧ wh ≤ 6) → r = -2) ∧ ((0 ≤ wh ∧ wh ≤ 6) ∧ on = 0 → r = -3) ∧ (¬ on = 0 → (wh = 0 → r = on) ∧ (wh = 1 → r = och) ∧ (wh = 2 → r = otn) ∧ (wh = 3 → r = osb) ∧ (wh = 4 → r = obh) ∧ (wh = 5 → r = okk 0) ∧ (wh = 6 → r = okk 1)))) (h2 : ((¬ (0 ≤ wh ∧ wh ≤ 6) → s = -2) ∧ ((0 ≤ wh ∧ wh ≤ 6) ∧ hsh = 0 → s = -3) ∧ ((0 ≤ wh ∧ wh ≤ 6) ∧ ¬ hsh = 0 → s = hs wh))) : r = s := by
  obtain ⟨⟨d1, d2, d3, d4, d5⟩, d7⟩ := hE
  by_cases c : 0 ≤ wh ∧ wh ≤ 6
  · by_cases d : on = 0
    · have := h1.2.1 ⟨c, d⟩
      have := h2.2.1 ⟨c, d2.mp d⟩
      omega
    · obtain ⟨p, _⟩ := d7 d
      have x := h1.2.2 d
      have y := h2.2.2 ⟨c, fun q => d (d2.mpr q)⟩
      rcases (show wh = 0 ∨ wh = 1 ∨ wh = 2 ∨ wh = 3 ∨ wh = 4 ∨ wh = 5 ∨ wh = 6 by omega) with e | e | e | e | e | e | e
      · subst e; have := x.1 rfl; omega
      · subst e; have := x.2.1 rfl; omega
      · subst e; have := x.2.2.1 rfl; omega
      · subst e; have := x.2.2.2.1 rfl; omega
      · subst e; have := x.2.2.2.2.1 rfl; omega
      · subst e; have := x.2.2.2.2.2.1 rfl; omega
      · subst e; have := x.2.2.2.2.2.2 rfl; omega
  · have := h1.1 c
    have := h2.1 c
    omega
theorem lc_got {on och otn osb obh hsh : Int} {okk e0 e1 hs gg : Int → Int} {ch i r s th2 : Int} {fo fo2 : Int → Int} (hE : ivE on och otn osb obh okk e0 e1 hsh hs gg) (h1 : (((((0 ≤ ch ∧ ch < och) ∧ (0 ≤ i ∧ i < on)) ∧ r = 0 ∧ (ch = 0 → fo2 0 = e0 i) ∧ (ch = 1 → fo2 0 = e1 i)) ∨ (¬ ((0 ≤ ch ∧ ch < och) ∧ (0 ≤ i ∧ i < on)) ∧ r = 1 ∧ fo2 = fo)))) (h2 : (((¬ hsh = 0 ∧ (0 ≤ ch ∧ ch < hs 1) ∧ (0 ≤ i ∧ i < hs 0)) → th2 = 0 ∧ s = gg (400 * ch + i)) ∧ (¬ (¬ hsh = 0 ∧ (0 ≤ ch ∧ ch < hs 1) ∧ (0 ≤ i ∧ i < hs 0)) → th2 = 1))) : th2 = r ∧ (r = 0 → fo2 0 = s) ∧ (r = 0 ∨ r = 1) := by
  obtain ⟨⟨d1, d2, d3, d4, d5⟩, d7⟩ := hE
  rcases h1 with ⟨c, z1, z2, z3⟩ | ⟨c, z1, z2⟩
  · have hn : ¬ on = 0 := by omega
    obtain ⟨p, p2, p3, p4, p5⟩ := d7 hn
    have y := h2.1 ⟨fun q => hn (d2.mpr q), by omega, by omega⟩
    refine ⟨by omega, fun _ => ?_, by omega⟩
    rcases (show ch = 0 ∨ ch = 1 by omega) with e | e
    · rw [z2 e, y.2, e, show 400 * 0 + i = i by omega]; exact (p4 i (by omega) (by omega)).1.symm
    · rw [z3 e, y.2, e, show 400 * 1 + i = 400 + i by omega]; exact (p5 (by omega) i (by omega) (by omega)).1.symm
  · have y := h2.2 (fun q => by
      have hn : ¬ on = 0 := fun w => q.1 (d2.mp w)
      obtain ⟨p, _⟩ := d7 hn
      omega)
    exact ⟨by omega, fun q => by omega, by omega⟩
theorem lc_take {on och otn osb obh hsh : Int} {okk e0 e1 hs gg : Int → Int} {cn mn f0 f1 sm : Int → Int} {sb dp : Int} {r sb2 s dp2 : Int} {cn2 d0 d1 mn2 sm2 : Int → Int} (hE : ivE on och otn osb obh okk e0 e1 hsh hs gg) (hA : ivA cn mn f0 f1 sm sb dp) (h1 : ((on = 0 → r = -3 ∧ sb2 = sb ∧ cn2 = cn ∧ d0 = f0 ∧ d1 = f1) ∧ (¬ on = 0 → r = on ∧ sb2 = osb ∧ cn2 0 = on ∧ cn2 1 = (if och = 2 then on else 0) ∧ eqOn d0 e0 0 on ∧ (och = 2 → eqOn d1 e1 0 on)))) (h2 : ((hsh = 0 → s = -3 ∧ dp2 = dp ∧ mn2 = mn ∧ sm2 = sm) ∧ (¬ hsh = 0 → s = hs 0 ∧ dp2 = hs 3 ∧ mn2 0 = hs 0 ∧ mn2 1 = (if hs 1 = 2 then hs 0 else 0) ∧ ∀ j, 0 ≤ j → j < 800 → sm2 j = gg j))) : r = s ∧ ivA cn2 mn2 d0 d1 sm2 sb2 dp2 := by
  obtain ⟨⟨q1, q2, q3, q4, q5⟩, q7⟩ := hE
  by_cases c : on = 0
  · have x := h1.1 c
    have y := h2.1 (q2.mp c)
    rw [x.2.1, x.2.2.1, x.2.2.2.1, x.2.2.2.2, y.2.1, y.2.2.1, y.2.2.2]
    exact ⟨by omega, hA⟩
  · have x := h1.2 c
    have y := h2.2 (fun q => c (q2.mpr q))
    obtain ⟨p, p2, p3, p4, p5⟩ := q7 c
    have c1 : cn2 1 = mn2 1 := by rw [x.2.2.2.1, y.2.2.2.1, p.1, p.2.1]
    have c0 : cn2 0 = on ∧ mn2 0 = on := by omega
    refine ⟨by omega, ?_, by omega, by omega, by omega, fun j a b => ?_, fun j a b => ?_⟩
    · have z := x.2.2.2.1
      by_cases w : och = 2
      · rw [if_pos w] at z; omega
      · rw [if_neg w] at z; omega
    · rw [y.2.2.2.2 j a (by omega), x.2.2.2.2.1 j a (by omega), x.2.1]; exact p4 j a (by omega)
    · have z := x.2.2.2.1
      by_cases w : och = 2
      · rw [if_pos w] at z
        rw [y.2.2.2.2 (400 + j) (by omega) (by omega), x.2.2.2.2.2 w j a (by omega), x.2.1]; exact p5 w j a (by omega)
      · rw [if_neg w] at z; omega
theorem lc_frames {len sz : Int} {B Bm : Int → Int} {r s rs2 : Int} {rc2 cb2 : Int → Int} (hC : ivC len sz B Bm) (h1 : cfOk rc2 ∧ r = frN B len 2400 0 0) (h2 : cfOk cb2 ∧ (0 ≤ rs2 ∧ rs2 ≤ 15) ∧ s = frN Bm sz 2400 0 0) : r = s := by
  obtain ⟨c1, c2, c3, c4, c5⟩ := hC
  rw [h1.2, h2.2.2, c1]
  exact frN_B c3 _ _ _ (by decide)
theorem lc_open {on och otn osb obh hsh : Int} {okk e0 e1 hs gg : Int → Int} {len sz : Int} {B Bm : Int → Int} {i r n2 ch2 tn2 sb2 bh2 s rs2 hsh2 : Int} {op sp op2 sp2 : Nat} {rc2 k2 d0 d1 cb2 hs2 gg2 : Int → Int} (hE : ivE on och otn osb obh okk e0 e1 hsh hs gg) (hC : ivC len sz B Bm) (h1 : (cfOk rc2 ∧ ((¬ (0 ≤ i ∧ i < len) ∧ r = -2 ∧ op2 = op ∧ sp2 = sp) ∨ ((0 ≤ i ∧ i < len) ∧ ¬ (frR B len i).1 = 0 ∧ r = -10 - (frR B len i).1 ∧ op2 = op ∧ sp2 = sp) ∨ ((0 ≤ i ∧ i < len) ∧ isF (frR B len i) 0 n2 ch2 tn2 sb2 (k2 0) (k2 1) bh2 d0 d1 ∧ r = n2 ∧ op2 = sp ∧ sp2 = op ∧ (1 ≤ n2 ∧ n2 ≤ 400) ∧ (ch2 = 1 ∨ ch2 = 2) ∧ (0 ≤ tn2 ∧ tn2 ≤ 3) ∧ (1 ≤ sb2 ∧ sb2 ≤ 16) ∧ (ch2 = 1 → tn2 = 0) ∧ fitOn d0 sb2 n2 ∧ (ch2 = 2 → fitOn d1 sb2 n2))))) (h2 : (cfOk cb2 ∧ (0 ≤ rs2 ∧ rs2 ≤ 15) ∧ ((¬ (0 ≤ i ∧ i < sz) ∧ s = -2 ∧ hsh2 = hsh ∧ hs2 = hs ∧ gg2 = gg) ∨ ((0 ≤ i ∧ i < sz) ∧ ¬ (frR Bm sz i).1 = 0 ∧ s = -10 - (frR Bm sz i).1 ∧ hsh2 = hsh ∧ hs2 = hs ∧ gg2 = gg) ∨ ((0 ≤ i ∧ i < sz) ∧ isF (frR Bm sz i) 0 (hs2 0) (hs2 1) (hs2 2) (hs2 3) (hs2 5) (hs2 6) (hs2 4) gg2 (fun t => gg2 (400 + t)) ∧ s = hs2 0 ∧ hsh2 = 1 ∧ (1 ≤ hs2 0 ∧ hs2 0 ≤ 400) ∧ (hs2 1 = 1 ∨ hs2 1 = 2) ∧ (0 ≤ hs2 2 ∧ hs2 2 ≤ 3) ∧ (1 ≤ hs2 3 ∧ hs2 3 ≤ 16) ∧ (hs2 1 = 1 → hs2 2 = 0) ∧ fitOn gg2 (hs2 3) (hs2 0) ∧ (hs2 1 = 2 → fitOn (fun t => gg2 (400 + t)) (hs2 3) (hs2 0)))))) : r = s ∧ ((op2 = op ∧ sp2 = sp ∧ ivE on och otn osb obh okk e0 e1 hsh2 hs2 gg2) ∨ (op2 = sp ∧ sp2 = op ∧ ivE n2 ch2 tn2 sb2 bh2 k2 d0 d1 hsh2 hs2 gg2)) := by
  obtain ⟨c1, c2, c3, c4, c5⟩ := hC
  rw [c1] at h2
  obtain ⟨_, h1⟩ := h1
  obtain ⟨_, _, h2⟩ := h2
  by_cases c : 0 ≤ i ∧ i < len
  · have hF := frR_B c3 c.1
    rcases h1 with ⟨x, _⟩ | ⟨_, x1, x2, x3, x4⟩ | ⟨_, x1, x2, x3, x4, x5, x6, x7, x8, x9, x10, x11⟩
    · exact absurd c x
    · rcases h2 with ⟨y, _⟩ | ⟨_, y1, y2, y3, y4, y5⟩ | ⟨_, y1, _⟩
      · exact absurd c y
      · rw [y3, y4, y5]
        exact ⟨by rw [x2, y2, hF], Or.inl ⟨x3, x4, hE⟩⟩
      · exact absurd (by rw [hF]; exact y1.1.symm) x1
    · rcases h2 with ⟨y, _⟩ | ⟨_, y1, _⟩ | ⟨_, y1, y2, y3, y4, y5, y6, y7, y8, y9, y10⟩
      · exact absurd c y
      · exact absurd (by rw [← hF]; exact x1.1.symm) y1
      · rw [← hF] at y1
        obtain ⟨u1, u2, u3, u4, u5, u6, u7, u8, u9⟩ := x1.2 rfl
        obtain ⟨w1, w2, w3, w4, w5, w6, w7, w8, w9⟩ := y1.2 rfl
        refine ⟨by omega, Or.inr ⟨x3, x4, ⟨by omega, by omega, by omega, by omega, by omega⟩, fun _ => ⟨by omega, x6, x8, fun j a b => ?_, fun q j a b => ?_⟩⟩⟩
        · exact ⟨(w8 j a (by omega)).trans (u8 j a b).symm, x10 j a b⟩
        · exact ⟨(w9 (by omega) j a (by omega)).trans (u9 q j a b).symm, x11 q j a b⟩
  · rcases h1 with ⟨x, x1, x2, x3⟩ | ⟨x, _⟩ | ⟨x, _⟩
    · rcases h2 with ⟨y, y1, y2, y3, y4⟩ | ⟨y, _⟩ | ⟨y, _⟩
      · rw [y2, y3, y4]
        exact ⟨by omega, Or.inl ⟨x2, x3, hE⟩⟩
      · exact absurd y c
      · exact absurd y c
    · exact absurd x c
    · exact absurd x c
theorem pkL_len {f0 f1 oc K1 X1 K2 X2 : Int → Int} {n ch sb oo os tn T kd1 ws1 b1 p1 kd2 ws2 b2 p2 : Int} (hn : 1 ≤ n ∧ n ≤ 400) (hoo : 0 ≤ oo ∧ oo ≤ 4) (ht : 0 ≤ tn ∧ tn ≤ 3) (h1 : formOf (selR f0 f1 (zFirst tn.toNat)) n (rbJ sb (zFirst tn.toNat)) oo os oc kd1 ws1 b1 p1 K1 X1) (h2 : ch = 2 → formOf (selR f0 f1 (zSecond tn.toNat)) n (rbJ sb (zSecond tn.toNat)) oo os oc kd2 ws2 b2 p2 K2 X2) (hT : pkTot f0 f1 n ch sb oo os oc tn T) : ((pkL f0 f1 n ch sb oo os oc tn kd1 ws1 p1 K1 X1 kd2 ws2 p2 K2 X2).length : Int) = T := by
  have l1 := rowB_len (w := ws1) hn (by have := h1.2.1; omega) hoo h1.2.2
  unfold pkL
  rw [List.length_append, List.length_append, hdB_len]
  rcases hT with ⟨c, a1, kd, ws, b, p, K, X, a2, a3⟩ | ⟨c, bb, a1, a2, a3⟩
  · subst a1
    have u := (form_uni (show formOf f0 n sb oo os oc kd1 ws1 b1 p1 K1 X1 from h1) a2).2.2.1
    rw [if_neg (by omega)]
    show ((16 + (rowBF _ n _ oo os oc kd1 ws1 p1 K1 X1).length + 0 : Nat) : Int) = T
    unfold rowBF
    omega
  · have g2 := h2 c
    have l2 := rowB_len (w := ws2) hn (by have := g2.2.1; omega) hoo g2.2.2
    obtain ⟨_, _, _, _, _, u1⟩ := a1 _ (zF_in tn ht).1 (zF_in tn ht).2
    obtain ⟨_, _, _, _, _, u2⟩ := a1 _ (zS_in tn ht).1 (zS_in tn ht).2
    have v1 := (form_uni h1 u1).2.2.1
    have v2 := (form_uni g2 u2).2.2.1
    rw [pMin_at, ← a2, tSum_e] at a3
    rw [if_pos c]
    unfold rowBF
    omega
theorem lc_pack {cn mn f0 f1 sm : Int → Int} {sb dp : Int} {oo mo os ms : Int} {oc ob : Int → Int} {len sz : Int} {B Bm : Int → Int} {un uch utn ubi ukd1 uws1 ub1 up1 ukd2 uws2 ub2 up2 hpk : Int} {UK1 UX1 UK2 UX2 pp tt kk xk : Int → Int} {unz uchz utnz ubiz ukd1z uws1z ub1z up1z ukd2z uws2z ub2z up2z lenz r s sz2 hpk2 ch2 tn2 T2 kd1 ws1 b1 p1 kd2 ws2 b2 p2 : Int} {UK1z UX1z UK2z UX2z Bz B2 pp2 tt2 kk2 xk2 M2 K1 X1 K2 X2 : Int → Int} (hA : ivA cn mn f0 f1 sm sb dp) (hB : ivB oo mo os ms oc ob) (hC : ivC len sz B Bm) (hD : ivD un uch utn ubi ukd1 uws1 ub1 up1 ukd2 uws2 ub2 up2 UK1 UX1 UK2 UX2 hpk pp tt kk xk) (h1 : ((((cn 0 = 0 ∨ (¬ cn 1 = 0 ∧ ¬ cn 1 = cn 0)) ∧ r = -3 ∧ lenz = len ∧ Bz = B ∧ unz = un ∧ uchz = uch ∧ utnz = utn ∧ ubiz = ubi ∧ ukd1z = ukd1 ∧ uws1z = uws1 ∧ ub1z = ub1 ∧ up1z = up1 ∧ ukd2z = ukd2 ∧ uws2z = uws2 ∧ ub2z = ub2 ∧ up2z = up2 ∧ UK1z = UK1 ∧ UX1z = UX1 ∧ UK2z = UK2 ∧ UX2z = UX2) ∨ (¬ (cn 0 = 0 ∨ (¬ cn 1 = 0 ∧ ¬ cn 1 = cn 0)) ∧ (∃ tx T, pkTot f0 f1 (cn 0) (if cn 1 = 0 then 1 else 2) sb oo os oc tx T ∧ 2400 < len + ((T + 7) / 8 + 1)) ∧ r = -4 ∧ lenz = len ∧ Bz = B ∧ unz = un ∧ uchz = uch ∧ utnz = utn ∧ ubiz = ubi ∧ ukd1z = ukd1 ∧ uws1z = uws1 ∧ ub1z = ub1 ∧ up1z = up1 ∧ ukd2z = ukd2 ∧ uws2z = uws2 ∧ ub2z = ub2 ∧ up2z = up2 ∧ UK1z = UK1 ∧ UX1z = UX1 ∧ UK2z = UK2 ∧ UX2z = UX2) ∨ (¬ (cn 0 = 0 ∨ (¬ cn 1 = 0 ∧ ¬ cn 1 = cn 0)) ∧ r = len ∧ len + ((ubiz + 7) / 8 + 1) ≤ 2400 ∧ unz = cn 0 ∧ uchz = (if cn 1 = 0 then 1 else 2) ∧ pkTot f0 f1 (cn 0) (if cn 1 = 0 then 1 else 2) sb oo os oc utnz ubiz ∧ lenz = len + ((ubiz + 7) / 8 + 1) ∧ (0 ≤ utnz ∧ utnz ≤ 3) ∧ (0 ≤ ubiz ∧ ubiz ≤ 700000) ∧ formOf (selR f0 f1 (zFirst utnz.toNat)) (cn 0) (rbJ sb (zFirst utnz.toNat)) oo os oc ukd1z uws1z ub1z up1z UK1z UX1z ∧ (uchz = 2 → formOf (selR f0 f1 (zSecond utnz.toNat)) (cn 0) (rbJ sb (zSecond utnz.toNat)) oo os oc ukd2z uws2z ub2z up2z UK2z UX2z) ∧ frameAt B len (pkL f0 f1 (cn 0) uchz sb oo os oc utnz ukd1z uws1z up1z UK1z UX1z ukd2z uws2z up2z UK2z UX2z) Bz ∧ (-1 ≤ up2z ∧ up2z ≤ 4))))) (h2 : ((∀ j, 0 ≤ j → j < 4000 → 0 ≤ M2 j ∧ M2 j < 256) ∧ (((mn 0 = 0 ∨ (¬ mn 1 = 0 ∧ ¬ mn 1 = mn 0)) ∧ s = -3 ∧ sz2 = sz ∧ hpk2 = hpk ∧ B2 = Bm ∧ pp2 = pp ∧ tt2 = tt ∧ kk2 = kk ∧ xk2 = xk) ∨ (¬ (mn 0 = 0 ∨ (¬ mn 1 = 0 ∧ ¬ mn 1 = mn 0)) ∧ (∃ tx T, pkTot sm (fun i => sm (400 + i)) (mn 0) (if mn 1 = 0 then 1 else 2) dp mo ms ob tx T ∧ 2400 < sz + ((T + 7) / 8 + 1)) ∧ s = -4 ∧ sz2 = sz ∧ hpk2 = hpk ∧ B2 = Bm ∧ pp2 = pp ∧ tt2 = tt ∧ kk2 = kk ∧ xk2 = xk) ∨ (¬ (mn 0 = 0 ∨ (¬ mn 1 = 0 ∧ ¬ mn 1 = mn 0)) ∧ s = sz ∧ hpk2 = 1 ∧ ch2 = (if mn 1 = 0 then 1 else 2) ∧ (pp2 0 = mn 0 ∧ pp2 1 = ch2 ∧ pp2 2 = tn2 ∧ pp2 3 = T2 ∧ pp2 4 = ((T2 + 7) / 8 + 1)) ∧ pkTot sm (fun i => sm (400 + i)) (mn 0) (if mn 1 = 0 then 1 else 2) dp mo ms ob tn2 T2 ∧ sz2 = sz + ((T2 + 7) / 8 + 1) ∧ sz2 ≤ 2400 ∧ (0 ≤ tn2 ∧ tn2 ≤ 3) ∧ (0 ≤ T2 ∧ T2 ≤ 700000) ∧ formOf (selR sm (fun i => sm (400 + i)) (zFirst tn2.toNat)) (mn 0) (rbJ dp (zFirst tn2.toNat)) mo ms ob kd1 ws1 b1 p1 K1 X1 ∧ (ch2 = 2 → formOf (selR sm (fun i => sm (400 + i)) (zSecond tn2.toNat)) (mn 0) (rbJ dp (zSecond tn2.toNat)) mo ms ob kd2 ws2 b2 p2 K2 X2) ∧ frameAt Bm sz (pkL sm (fun i => sm (400 + i)) (mn 0) ch2 dp mo ms ob tn2 kd1 ws1 p1 K1 X1 kd2 ws2 p2 K2 X2) B2 ∧ isBytes B2 ∧ (tt2 0 = kd1 ∧ tt2 1 = ws1 ∧ tt2 2 = b1 ∧ tt2 3 = p1) ∧ (∀ j, 0 ≤ j → j < cparts p1 → kk2 j = K1 j ∧ xk2 j = X1 j) ∧ (ch2 = 2 → (tt2 4 = kd2 ∧ tt2 5 = ws2 ∧ tt2 6 = b2 ∧ tt2 7 = p2) ∧ (∀ j, 0 ≤ j → j < cparts p2 → kk2 (16 + j) = K2 j ∧ xk2 (16 + j) = X2 j)) ∧ (¬ ch2 = 2 → tt2 7 = tt 7))))) : r = s ∧ ivC lenz sz2 Bz B2 ∧ ivD unz uchz utnz ubiz ukd1z uws1z ub1z up1z ukd2z uws2z ub2z up2z UK1z UX1z UK2z UX2z hpk2 pp2 tt2 kk2 xk2 := by
  obtain ⟨a1, a2, a3, a4, a5, a6⟩ := hA
  obtain ⟨b1, b2, b3, b4, b5, b6, b7⟩ := hB
  have hC0 := hC
  have hD0 := hD
  obtain ⟨c1, c2, c3, c4, c5⟩ := hC
  obtain ⟨d0, d6, d7⟩ := hD
  obtain ⟨_, h2⟩ := h2
  rw [a2.1, a2.2, a4, b2, c1] at h2
  have hf0 : eqOn f0 sm 0 (cn 0) := fun j x y => (a5 j x y).1.symm
  have hos : 0 < oo → os = ms := fun q => (b3 q).1
  have hoc : eqOn oc ob 0 oo := fun j x y => (b5 j x y).symm
  rcases h1 with ⟨x, x1, x2, x3, x4, x5, x6, x7, x8, x9, x10, x11, x12, x13, x14, x15, x16, x17, x18, x19⟩ | ⟨x, x0, x1, x2, x3, x4, x5, x6, x7, x8, x9, x10, x11, x12, x13, x14, x15, x16, x17, x18, x19⟩ | ⟨x, x1, x2, x3, x4, x5, x6, x7, x8, x9, x10, x11, x12⟩
  · rcases h2 with ⟨y, y1, y2, y3, y4, y5, y6, y7, y8⟩ | ⟨y, _⟩ | ⟨y, _⟩
    · subst x2 x3 x4 x5 x6 x7 x8 x9 x10 x11 x12 x13 x14 x15 x16 x17 x18 x19 y3 y4 y5 y6 y7 y8
      rw [show sz2 = sz by omega]
      exact ⟨by omega, hC0, hD0⟩
    · exact absurd x y
    · exact absurd x y
  · have hn : 1 ≤ cn 0 ∧ cn 0 ≤ 400 := by omega
    have hf1 : (if cn 1 = 0 then (1 : Int) else 2) = 2 → eqOn f1 (fun i => sm (400 + i)) 0 (cn 0) := fun q => by
      by_cases w : cn 1 = 0
      · rw [if_pos w] at q; exact absurd q (by decide)
      · exact fun j u v => (a6 j u (by omega)).1.symm
    obtain ⟨tx, T, x01, x02⟩ := x0
    rcases h2 with ⟨y, _⟩ | ⟨y, _, y1, y2, y3, y4, y5, y6, y7, y8⟩ | ⟨y, y1, y2, y3, y4, y5, y6, y7, _⟩
    · exact absurd y x
    · subst x2 x3 x4 x5 x6 x7 x8 x9 x10 x11 x12 x13 x14 x15 x16 x17 x18 x19 y3 y4 y5 y6 y7 y8
      rw [show sz2 = sz by omega]
      exact ⟨by omega, hC0, hD0⟩
    · have u := pkTot_uni hn b1 hf0 hf1 hos hoc x01 y5
      omega
  · have hn : 1 ≤ cn 0 ∧ cn 0 ≤ 400 := by omega
    have hf1 : (if cn 1 = 0 then (1 : Int) else 2) = 2 → eqOn f1 (fun i => sm (400 + i)) 0 (cn 0) := fun q => by
      by_cases w : cn 1 = 0
      · rw [if_pos w] at q; exact absurd q (by decide)
      · exact fun j u v => (a6 j u (by omega)).1.symm
    rcases h2 with ⟨y, _⟩ | ⟨y, ⟨tx, T, y01, y02⟩, _⟩ | ⟨y, y1, y2, y3, y4, y5, y6, y7, y8, y9, y10, y11, y12, y13, y14, y15, y16, y17⟩
    · exact absurd y x
    · have u := pkTot_uni hn b1 hf0 hf1 hos hoc x5 y01
      omega
    · have u := pkTot_uni hn b1 hf0 hf1 hos hoc x5 y5
      obtain ⟨u1, u2⟩ := u
      subst u1 u2
      have hch : uchz = 1 ∨ uchz = 2 := by
        by_cases w : cn 1 = 0
        · rw [if_pos w] at x4; exact Or.inl x4
        · rw [if_neg w] at x4; exact Or.inr x4
      have ech : ch2 = uchz := y3.trans x4.symm
      subst ech
      rw [← x4] at x5 hf1
      have hone : ch2 = 1 → zFirst utnz.toNat = 0 := fun q => by
        rcases x5 with ⟨_, e, _⟩ | ⟨e, _⟩
        · rw [e]; rfl
        · omega
      have hs1 : eqOn (selR f0 f1 (zFirst utnz.toNat)) (selR sm (fun i => sm (400 + i)) (zFirst utnz.toNat)) 0 (cn 0) := by
        rcases hch with q | q
        · rw [hone q]; exact hf0
        · exact selR_cg hf0 (hf1 q) _
      have w1 := form_two hn b1 hs1 hos hoc x9 y10
      obtain ⟨⟨e1, e2, e3, e4, e5⟩, e6⟩ := w1
      have hL := pkL_len hn b1 x7 x9 x10 x5
      have hLL : pkL f0 f1 (cn 0) ch2 sb oo os oc utnz ukd1z uws1z up1z UK1z UX1z ukd2z uws2z up2z UK2z UX2z = pkL sm (fun i => sm (400 + i)) (cn 0) ch2 sb oo ms ob utnz kd1 ws1 p1 K1 X1 kd2 ws2 p2 K2 X2 := by
        unfold pkL
        rw [e6]
        by_cases q : ch2 = 2
        · rw [if_pos q, if_pos q, (form_two hn b1 (selR_cg hf0 (hf1 q) _) hos hoc (x10 q) (y11 q)).2]
        · rw [if_neg q, if_neg q]
      rw [← hLL] at y12
      have hE := frame_uni c2.1 x11 y12 c3 (by rw [hL]; omega)
      rw [hL] at hE
      have fp1 := form_p x9
      have fp2 := form_p y10
      refine ⟨by omega, ⟨by omega, by omega, fun j u v => hE j u (by omega), x11.1, y13⟩, ⟨by omega, by omega, by omega, by omega, by omega⟩, ⟨by omega, x12, by omega, ?_, ?_⟩, fun _ => ⟨by omega, hch, ⟨by omega, fun j u v => ?_⟩, fun q => ?_⟩⟩
      · by_cases q : ch2 = 2
        · have := form_p (y11 q)
          have := (y16 q).1.2.2.2
          omega
        · rw [y17 q]; omega
      · refine ⟨?_, ?_⟩ <;> omega
      · have z1 := e5 j u v
        have z2 := y15 j u (by rw [← e4]; exact v)
        exact ⟨z2.1.trans z1.1.symm, z2.2.trans z1.2.symm⟩
      · obtain ⟨⟨g1, g2, g3, g4, g5⟩, _⟩ := form_two hn b1 (selR_cg hf0 (hf1 q) _) hos hoc (x10 q) (y11 q)
        obtain ⟨k1, k2⟩ := y16 q
        refine ⟨by omega, fun j u v => ?_⟩
        have z1 := g5 j u v
        have z2 := k2 j u (by rw [← g4]; exact v)
        exact ⟨z2.1.trans z1.1.symm, z2.2.trans z1.2.symm⟩

