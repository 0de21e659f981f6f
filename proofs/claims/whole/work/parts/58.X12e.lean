set_option maxHeartbeats 4000000 in
set_option maxRecDepth 100000 in
theorem C_X12_pack (l : Launch) (g : GG) (n0 my sm st yb pkr rt rk rx si gt va re ua mk rki rea rby : Nat) (th dp sz mo ms hpk hsh vn wd wa pkk pxx bp bi pl cd rn rch rtn rdp rsh : Int) (cn ss oc B pp tt kk xk val rs U M : Int → Int) (hcn : (0 ≤ cn 0 ∧ cn 0 ≤ 400) ∧ (0 ≤ cn 1 ∧ cn 1 ≤ 400)) (hdp : 1 ≤ dp ∧ dp ≤ 16) (h0 : ∀ i, 0 ≤ i → i < cn 0 → -32768 ≤ ss i ∧ ss i < 32768) (hs1 : ∀ i, 0 ≤ i → i < cn 1 → -32768 ≤ ss (400 + i) ∧ ss (400 + i) < 32768) (hoo : 0 ≤ mo ∧ mo ≤ 4) (hos : 0 ≤ ms ∧ ms ≤ 15) (hcf : cfOk oc) (hB : isBytes B) (hl : 0 ≤ sz ∧ sz ≤ 2400) (hM : ∀ j, 0 ≤ j → j < 4000 → 0 ≤ M j ∧ M j < 256) : Ctr l g yX12_pack cX12_pack 9 (some .int) 6 180 0 0 [.ref n0] [(n0, oX12 th dp my sm st sz mo ms yb hpk pkr rt rk rx hsh si gt va vn wd wa re ua pkk pxx bp mk bi pl cd rn rch rtn rdp rki rea rby rsh), (my, aI g 2 cn), (sm, aI g 800 ss), (st, aI g 2400 B), (yb, aI g 4 oc), (pkr, aI g 5 pp), (rt, aI g 8 tt), (rk, aI g 32 kk), (rx, aI g 32 xk), (va, aI g 400 val), (re, aL g 400 rs), (ua, aL g 400 U), (mk, aI g 4000 M)] (fun vv ww => ∃ (r sz2 hpk2 vn2 wd2 wa2 bp2 pk2 px2 bi2 ch2 tn2 T2 kd1 ws1 b1 p1 kd2 ws2 b2 p2 : Int) (B2 pp2 tt2 kk2 xk2 v2 rs2 U2 M2 K1 X1 K2 X2 : Int → Int), vv = some (.int (iI r)) ∧ ww = [(n0, oX12 0 dp my sm st sz2 mo ms yb hpk2 pkr rt rk rx hsh si gt va vn2 wd2 wa2 re ua pk2 px2 bp2 mk bi2 pl cd rn rch rtn rdp rki rea rby rsh), (my, aI g 2 cn), (sm, aI g 800 ss), (st, aI g 2400 B2), (yb, aI g 4 oc), (pkr, aI g 5 pp2), (rt, aI g 8 tt2), (rk, aI g 32 kk2), (rx, aI g 32 xk2), (va, aI g 400 v2), (re, aL g 400 rs2), (ua, aL g 400 U2), (mk, aI g 4000 M2)] ∧ (∀ j, 0 ≤ j → j < 4000 → 0 ≤ M2 j ∧ M2 j < 256) ∧ (((cn 0 = 0 ∨ (¬ cn 1 = 0 ∧ ¬ cn 1 = cn 0)) ∧ r = -3 ∧ sz2 = sz ∧ hpk2 = hpk ∧ B2 = B ∧ pp2 = pp ∧ tt2 = tt ∧ kk2 = kk ∧ xk2 = xk) ∨ (¬ (cn 0 = 0 ∨ (¬ cn 1 = 0 ∧ ¬ cn 1 = cn 0)) ∧ (∃ tx T, pkTot ss (fun i => ss (400 + i)) (cn 0) (if cn 1 = 0 then 1 else 2) dp mo ms oc tx T ∧ 2400 < sz + ((T + 7) / 8 + 1)) ∧ r = -4 ∧ sz2 = sz ∧ hpk2 = hpk ∧ B2 = B ∧ pp2 = pp ∧ tt2 = tt ∧ kk2 = kk ∧ xk2 = xk) ∨ (¬ (cn 0 = 0 ∨ (¬ cn 1 = 0 ∧ ¬ cn 1 = cn 0)) ∧ r = sz ∧ hpk2 = 1 ∧ ch2 = (if cn 1 = 0 then 1 else 2) ∧ (pp2 0 = cn 0 ∧ pp2 1 = ch2 ∧ pp2 2 = tn2 ∧ pp2 3 = T2 ∧ pp2 4 = ((T2 + 7) / 8 + 1)) ∧ pkTot ss (fun i => ss (400 + i)) (cn 0) (if cn 1 = 0 then 1 else 2) dp mo ms oc tn2 T2 ∧ sz2 = sz + ((T2 + 7) / 8 + 1) ∧ sz2 ≤ 2400 ∧ (0 ≤ tn2 ∧ tn2 ≤ 3) ∧ (0 ≤ T2 ∧ T2 ≤ 700000) ∧ formOf (selR ss (fun i => ss (400 + i)) (zFirst tn2.toNat)) (cn 0) (rbJ dp (zFirst tn2.toNat)) mo ms oc kd1 ws1 b1 p1 K1 X1 ∧ (ch2 = 2 → formOf (selR ss (fun i => ss (400 + i)) (zSecond tn2.toNat)) (cn 0) (rbJ dp (zSecond tn2.toNat)) mo ms oc kd2 ws2 b2 p2 K2 X2) ∧ frameAt B sz (pkL ss (fun i => ss (400 + i)) (cn 0) ch2 dp mo ms oc tn2 kd1 ws1 p1 K1 X1 kd2 ws2 p2 K2 X2) B2 ∧ isBytes B2 ∧ (tt2 0 = kd1 ∧ tt2 1 = ws1 ∧ tt2 2 = b1 ∧ tt2 3 = p1) ∧ (∀ j, 0 ≤ j → j < cparts p1 → kk2 j = K1 j ∧ xk2 j = X1 j) ∧ (ch2 = 2 → (tt2 4 = kd2 ∧ tt2 5 = ws2 ∧ tt2 6 = b2 ∧ tt2 7 = p2) ∧ (∀ j, 0 ≤ j → j < cparts p2 → kk2 (16 + j) = K2 j ∧ xk2 (16 + j) = X2 j)) ∧ (¬ ch2 = 2 → tt2 7 = tt 7)))) := by
  refine Ctr.of [(0, .ref n0)] (by decide) (Nat.le_of_ble_eq_true rfl) rfl ?_
  intro x hxl hxg jb jr hin
  subst hxl; subst hxg
  refine j_aload_n jb dX12_pack_0 0 rfl ?_
  refine j_iconst jb dX12_pack_1 ?_
  refine j_put (ws' := [(n0, oX12 0 dp my sm st sz mo ms yb hpk pkr rt rk rx hsh si gt va vn wd wa re ua pkk pxx bp mk bi pl cd rn rch rtn rdp rki rea rby rsh), (my, aI x.g 2 cn), (sm, aI x.g 800 ss), (st, aI x.g 2400 B), (yb, aI x.g 4 oc), (pkr, aI x.g 5 pp), (rt, aI x.g 8 tt), (rk, aI x.g 32 kk), (rx, aI x.g 32 xk), (va, aI x.g 400 val), (re, aL x.g 400 rs), (ua, aL x.g 400 U), (mk, aI x.g 4000 M)]) jb f_X12_1 w_X12_0 rfl dX12_pack_2 0 rfl rfl rfl (Nat.le_of_ble_eq_true rfl) rfl ?_
  refine j_aload_n jb dX12_pack_5 0 rfl ?_
  refine j_get jb f_X12_16 dX12_pack_6 0 rfl rfl ?_
  refine j_iconst jb dX12_pack_9 ?_
  refine j_iald jb dX12_pack_10 1 rfl (by omega) (by decide) ?_
  refine j_if_eq (tgt := 38) jb dX12_pack_11 (by decide) (by omega) (fun c_11 => ?_) (fun c_11 => ?_)
  · skip
    refine j_bipush jb dX12_pack_38 (by decide) ?_
    refine j_norm (lv' := []) (st' := [.int (iI (-3))]) (ws' := [(n0, oX12 0 dp my sm st sz mo ms yb hpk pkr rt rk rx hsh si gt va vn wd wa re ua pkk pxx bp mk bi pl cd rn rch rtn rdp rki rea rby rsh), (my, aI x.g 2 cn), (sm, aI x.g 800 ss), (st, aI x.g 2400 B), (yb, aI x.g 4 oc), (pkr, aI x.g 5 pp), (rt, aI x.g 8 tt), (rk, aI x.g 32 kk), (rx, aI x.g 32 xk), (va, aI x.g 400 val), (re, aL x.g 400 rs), (ua, aL x.g 400 U), (mk, aI x.g 4000 M)]) [] [0, 1, 2, 3, 4, 5, 6, 7, 8, 9, 10, 11, 12] rfl rfl (by decide) rfl ?_
    exact j_iret jb jr dX12_pack_40 ⟨_, _, _, _, _, _, _, _, _, _, 0, 0, 0, 0, 0, 0, 0, 0, 0, 0, 0, _, _, _, _, _, _, _, _, _, z0, z0, z0, z0, rfl, rfl, hM, Or.inl ⟨by omega, rfl, rfl, rfl, rfl, rfl, rfl, rfl, rfl⟩⟩
  · skip
    refine j_aload_n jb dX12_pack_14 0 rfl ?_
    refine j_get jb f_X12_16 dX12_pack_15 0 rfl rfl ?_
    refine j_iconst jb dX12_pack_18 ?_
    refine j_iald jb dX12_pack_19 1 rfl (by omega) (by decide) ?_
    have J41 : (cn 1 ≤ 0 ∨ cn 1 = cn 0) → JW x 0 0 41 [(0, .ref n0)] [] [(n0, oX12 0 dp my sm st sz mo ms yb hpk pkr rt rk rx hsh si gt va vn wd wa re ua pkk pxx bp mk bi pl cd rn rch rtn rdp rki rea rby rsh), (my, aI x.g 2 cn), (sm, aI x.g 800 ss), (st, aI x.g 2400 B), (yb, aI x.g 4 oc), (pkr, aI x.g 5 pp), (rt, aI x.g 8 tt), (rk, aI x.g 32 kk), (rx, aI x.g 32 xk), (va, aI x.g 400 val), (re, aL x.g 400 rs), (ua, aL x.g 400 U), (mk, aI x.g 4000 M)] := by
      intro  h41
      have hno : ¬ (cn 0 = 0 ∨ (¬ cn 1 = 0 ∧ ¬ cn 1 = cn 0)) := by omega
      have hn1 : 1 ≤ cn 0 ∧ cn 0 ≤ 400 := by omega
      refine j_aload_n jb dX12_pack_41 0 rfl ?_
      refine j_get jb f_X12_16 dX12_pack_42 0 rfl rfl ?_
      refine j_iconst jb dX12_pack_45 ?_
      refine j_iald jb dX12_pack_46 1 rfl (by omega) (by decide) ?_
      refine j_if_le (tgt := 54) jb dX12_pack_47 (by decide) (by omega) (fun c_47 => ?_) (fun c_47 => ?_)
      · skip
        obtain ⟨ch, hch⟩ : ∃ ch : Int, ch = 1 := ⟨_, rfl⟩
        have hc1 : cn 1 = 0 := by omega
        have hfo : ∀ j, (j = 0 ∨ ch = 2) → ∃ kd ws p K X, formOf (selR ss (fun i => ss (400 + i)) j) (cn 0) (rbJ dp j) mo ms oc kd ws ((bbF ss (fun i => ss (400 + i)) (cn 0) dp mo ms oc) j) p K X := fun j z => form_all hn1 hdp hoo h0 (Or.inl (z.resolve_right (by omega)))
        refine j_iconst jb dX12_pack_54 ?_
        refine j_istore_n (lv' := [(1, .int (iI 1)), (0, .ref n0)]) jb dX12_pack_55 rfl (by decide) rfl ?_
        refine j_iconst jb dX12_pack_56 ?_
        refine j_istore_n (lv' := [(2, .int (iI 0)), (1, .int (iI 1)), (0, .ref n0)]) jb dX12_pack_57 rfl (by decide) rfl ?_
        refine j_ldc2 (z := 1000000000) jb q_X12_115 rfl dX12_pack_58 ?_
        refine j_lstore_n (lv' := [(3, .long (lI 1000000000)), (2, .int (iI 0)), (1, .int (iI 1)), (0, .ref n0)]) jb dX12_pack_61 rfl (by decide) rfl ?_
        refine j_iconst jb dX12_pack_62 ?_
        refine j_istore (lv' := [(5, .int (iI 0)), (3, .long (lI 1000000000)), (2, .int (iI 0)), (1, .int (iI 1)), (0, .ref n0)]) jb dX12_pack_63 (by decide) rfl ?_
        have L65 : ∀ (fu : Nat) (tn best t vn1 wd1 wa1 bp1 pk1 px1 : Int) (v1 rs1 U1 : Int → Int), (0 ≤ t ∧ (ch = 1 → t ≤ 1) ∧ (ch = 2 → t ≤ 4) ∧ (0 ≤ best ∧ best ≤ 1000000000) ∧ (0 ≤ tn ∧ tn ≤ 3) ∧ tInv (fT ch (bbF ss (fun i => ss (400 + i)) (cn 0) dp mo ms oc)) t best tn) → (4 - t).toNat < fu → JW x 0 0 65 [(0, .ref n0), (1, .int (iI 1)), (2, .int (iI tn)), (3, .long (lI best)), (5, .int (iI t))] [] [(n0, oX12 0 dp my sm st sz mo ms yb hpk pkr rt rk rx hsh si gt va vn1 wd1 wa1 re ua pk1 px1 bp1 mk bi pl cd rn rch rtn rdp rki rea rby rsh), (my, aI x.g 2 cn), (sm, aI x.g 800 ss), (st, aI x.g 2400 B), (yb, aI x.g 4 oc), (pkr, aI x.g 5 pp), (rt, aI x.g 8 tt), (rk, aI x.g 32 kk), (rx, aI x.g 32 xk), (va, aI x.g 400 v1), (re, aL x.g 400 rs1), (ua, aL x.g 400 U1), (mk, aI x.g 4000 M)] := by
          intro fu
          induction fu with
          | zero => intro tn best t vn1 wd1 wa1 bp1 pk1 px1 v1 rs1 U1 _ hm; exact absurd hm (by omega)
          | succ fu ih =>
            intro tn best t vn1 wd1 wa1 bp1 pk1 px1 v1 rs1 U1 ⟨hi1, hi2, hi3, hi4, hi5, hi6⟩ hm65
            have ih65 := ih
            clear ih
            refine j_iload jb dX12_pack_65 4 rfl ?_
            refine j_iload_n jb dX12_pack_67 1 rfl ?_
            refine j_iconst jb dX12_pack_68 ?_
            refine j_icmp_ne (tgt := 76) jb dX12_pack_69 (by decide) (by decide) (by decide) (fun _ => ?_) (fun h => absurd h (by decide))
            refine j_iconst jb dX12_pack_76 ?_
            refine j_icmp_ge (tgt := 138) jb dX12_pack_77 (by decide) (by omega) (by omega) (fun c_77 => ?_) (fun c_77 => ?_)
            · skip
              have hTt := tInv_tot (show (ch = 1 ∧ t = 1) ∨ (ch = 2 ∧ t = 4) by omega) hi6 hfo
              refine j_bipush jb dX12_pack_138 (by decide) ?_
              refine j_lload_n jb dX12_pack_140 3 rfl ?_
              refine j_l2i jb dX12_pack_141 ?_
              refine j_iadd jb dX12_pack_142 ?_
              refine j_bipush jb dX12_pack_143 (by decide) ?_
              refine j_iadd jb dX12_pack_145 ?_
              refine j_bipush jb dX12_pack_146 (by decide) ?_
              refine j_idiv jb dX12_pack_148 (by omega) ?_
              refine j_iconst jb dX12_pack_149 ?_
              refine j_iadd jb dX12_pack_150 ?_
              refine j_geni (fun nbt e_nbt => ?_)
              refine j_istore (lv' := [(5, .int (iI nbt)), (0, .ref n0), (1, .int (iI 1)), (2, .int (iI tn)), (3, .long (lI best))]) jb dX12_pack_151 (by decide) rfl ?_
              refine j_aload_n jb dX12_pack_153 1 rfl ?_
              refine j_get jb f_X12_69 dX12_pack_154 0 rfl rfl ?_
              refine j_iload jb dX12_pack_157 0 rfl ?_
              refine j_iadd jb dX12_pack_159 ?_
              refine j_sipush jb dX12_pack_160 (by decide) ?_
              refine j_icmp_le (tgt := 169) jb dX12_pack_163 (by decide) (by omega) (by omega) (fun c_163 => ?_) (fun c_163 => ?_)
              · skip
                refine j_aload_n jb dX12_pack_169 1 rfl ?_
                refine j_iconst jb dX12_pack_170 ?_
                refine j_put (ws' := [(n0, oX12 0 dp my sm st sz mo ms yb hpk pkr rt rk rx hsh si gt va vn1 wd1 wa1 re ua pk1 px1 bp1 mk 0 pl cd rn rch rtn rdp rki rea rby rsh), (my, aI x.g 2 cn), (sm, aI x.g 800 ss), (st, aI x.g 2400 B), (yb, aI x.g 4 oc), (pkr, aI x.g 5 pp), (rt, aI x.g 8 tt), (rk, aI x.g 32 kk), (rx, aI x.g 32 xk), (va, aI x.g 400 v1), (re, aL x.g 400 rs1), (ua, aL x.g 400 U1), (mk, aI x.g 4000 M)]) jb f_X12_163 w_X12_27 rfl dX12_pack_171 0 rfl rfl rfl (Nat.le_of_ble_eq_true rfl) rfl ?_
                refine j_aload_n jb dX12_pack_174 1 rfl ?_
                refine j_aload_n jb dX12_pack_175 1 rfl ?_
                refine j_get jb f_X12_16 dX12_pack_176 0 rfl rfl ?_
                refine j_iconst jb dX12_pack_179 ?_
                refine j_iald jb dX12_pack_180 1 rfl (by omega) (by decide) ?_
                refine j_iconst jb dX12_pack_181 ?_
                refine j_isub jb dX12_pack_182 ?_
                refine j_i2l jb dX12_pack_183 (by omega) ?_
                refine j_bipush jb dX12_pack_184 (by decide) ?_
                refine j_callV (wr := [(my, aI x.g 2 cn), (sm, aI x.g 800 ss), (st, aI x.g 2400 B), (yb, aI x.g 4 oc), (pkr, aI x.g 5 pp), (rt, aI x.g 8 tt), (rk, aI x.g 32 kk), (rx, aI x.g 32 xk), (va, aI x.g 400 v1), (re, aL x.g 400 rs1), (ua, aL x.g 400 U1)]) jb k_X12_put i_X12_put s_X12_put l_X12_166 (C_X12_put x.l x.g n0 my sm st yb pkr rt rk rx si gt va re ua mk rki rea rby 0 dp sz mo ms hpk hsh vn1 wd1 wa1 pk1 px1 bp1 0 pl cd rn rch rtn rdp rsh ((cn 0) - 1) 9 M (by omega) (by decide) (by omega) hM (fun z => absurd (by decide) z)) 0 14 rfl rfl rfl [0, 12] [1, 2, 3, 4, 5, 6, 7, 8, 9, 10, 11] (by decide) rfl rfl (by decide) (by decide) rfl rfl (Nat.le_of_ble_eq_true rfl) (by decide) dX12_pack_186 (fun v w hp => ?_)
                obtain ⟨b186, M186, rfl, rfl, h186⟩ := hp
                refine j_norm (lv' := [(5, .int (iI nbt)), (0, .ref n0), (1, .int (iI 1)), (2, .int (iI tn)), (3, .long (lI best))]) (st' := []) (ws' := [(n0, oX12 0 dp my sm st sz mo ms yb hpk pkr rt rk rx hsh si gt va vn1 wd1 wa1 re ua pk1 px1 bp1 mk b186 pl cd rn rch rtn rdp rki rea rby rsh), (my, aI x.g 2 cn), (sm, aI x.g 800 ss), (st, aI x.g 2400 B), (yb, aI x.g 4 oc), (pkr, aI x.g 5 pp), (rt, aI x.g 8 tt), (rk, aI x.g 32 kk), (rx, aI x.g 32 xk), (va, aI x.g 400 v1), (re, aL x.g 400 rs1), (ua, aL x.g 400 U1), (mk, aI x.g 4000 M186)]) [0, 1, 2, 3, 4] [11, 0, 1, 2, 3, 4, 5, 6, 7, 8, 9, 10, 12] rfl rfl (by decide) rfl ?_
                refine j_aload_n jb dX12_pack_189 1 rfl ?_
                refine j_iload_n jb dX12_pack_190 2 rfl ?_
                refine j_iconst jb dX12_pack_191 ?_
                refine j_isub jb dX12_pack_192 ?_
                refine j_i2l jb dX12_pack_193 (by omega) ?_
                refine j_iconst jb dX12_pack_194 ?_
                refine j_callV (wr := [(my, aI x.g 2 cn), (sm, aI x.g 800 ss), (st, aI x.g 2400 B), (yb, aI x.g 4 oc), (pkr, aI x.g 5 pp), (rt, aI x.g 8 tt), (rk, aI x.g 32 kk), (rx, aI x.g 32 xk), (va, aI x.g 400 v1), (re, aL x.g 400 rs1), (ua, aL x.g 400 U1)]) jb k_X12_put i_X12_put s_X12_put l_X12_166 (C_X12_put x.l x.g n0 my sm st yb pkr rt rk rx si gt va re ua mk rki rea rby 0 dp sz mo ms hpk hsh vn1 wd1 wa1 pk1 px1 bp1 b186 pl cd rn rch rtn rdp rsh (1 - 1) 1 M186 (by omega) (by decide) (by omega) h186.2.1.1 h186.2.2) 0 14 rfl rfl rfl [0, 12] [1, 2, 3, 4, 5, 6, 7, 8, 9, 10, 11] (by decide) rfl rfl (by decide) (by decide) rfl rfl (Nat.le_of_ble_eq_true rfl) (by decide) dX12_pack_195 (fun v w hp => ?_)
                obtain ⟨b195, M195, rfl, rfl, h195⟩ := hp
                refine j_norm (lv' := [(5, .int (iI nbt)), (0, .ref n0), (1, .int (iI 1)), (2, .int (iI tn)), (3, .long (lI best))]) (st' := []) (ws' := [(n0, oX12 0 dp my sm st sz mo ms yb hpk pkr rt rk rx hsh si gt va vn1 wd1 wa1 re ua pk1 px1 bp1 mk b195 pl cd rn rch rtn rdp rki rea rby rsh), (my, aI x.g 2 cn), (sm, aI x.g 800 ss), (st, aI x.g 2400 B), (yb, aI x.g 4 oc), (pkr, aI x.g 5 pp), (rt, aI x.g 8 tt), (rk, aI x.g 32 kk), (rx, aI x.g 32 xk), (va, aI x.g 400 v1), (re, aL x.g 400 rs1), (ua, aL x.g 400 U1), (mk, aI x.g 4000 M195)]) [0, 1, 2, 3, 4] [11, 0, 1, 2, 3, 4, 5, 6, 7, 8, 9, 10, 12] rfl rfl (by decide) rfl ?_
                refine j_aload_n jb dX12_pack_198 1 rfl ?_
                refine j_iload_n jb dX12_pack_199 3 rfl ?_
                refine j_i2l jb dX12_pack_200 (by omega) ?_
                refine j_iconst jb dX12_pack_201 ?_
                refine j_callV (wr := [(my, aI x.g 2 cn), (sm, aI x.g 800 ss), (st, aI x.g 2400 B), (yb, aI x.g 4 oc), (pkr, aI x.g 5 pp), (rt, aI x.g 8 tt), (rk, aI x.g 32 kk), (rx, aI x.g 32 xk), (va, aI x.g 400 v1), (re, aL x.g 400 rs1), (ua, aL x.g 400 U1)]) jb k_X12_put i_X12_put s_X12_put l_X12_166 (C_X12_put x.l x.g n0 my sm st yb pkr rt rk rx si gt va re ua mk rki rea rby 0 dp sz mo ms hpk hsh vn1 wd1 wa1 pk1 px1 bp1 b195 pl cd rn rch rtn rdp rsh tn 2 M195 (by omega) (by decide) (by omega) h195.2.1.1 h195.2.2) 0 14 rfl rfl rfl [0, 12] [1, 2, 3, 4, 5, 6, 7, 8, 9, 10, 11] (by decide) rfl rfl (by decide) (by decide) rfl rfl (Nat.le_of_ble_eq_true rfl) (by decide) dX12_pack_202 (fun v w hp => ?_)
                obtain ⟨b202, M202, rfl, rfl, h202⟩ := hp
                refine j_norm (lv' := [(5, .int (iI nbt)), (0, .ref n0), (1, .int (iI 1)), (2, .int (iI tn)), (3, .long (lI best))]) (st' := []) (ws' := [(n0, oX12 0 dp my sm st sz mo ms yb hpk pkr rt rk rx hsh si gt va vn1 wd1 wa1 re ua pk1 px1 bp1 mk b202 pl cd rn rch rtn rdp rki rea rby rsh), (my, aI x.g 2 cn), (sm, aI x.g 800 ss), (st, aI x.g 2400 B), (yb, aI x.g 4 oc), (pkr, aI x.g 5 pp), (rt, aI x.g 8 tt), (rk, aI x.g 32 kk), (rx, aI x.g 32 xk), (va, aI x.g 400 v1), (re, aL x.g 400 rs1), (ua, aL x.g 400 U1), (mk, aI x.g 4000 M202)]) [0, 1, 2, 3, 4] [11, 0, 1, 2, 3, 4, 5, 6, 7, 8, 9, 10, 12] rfl rfl (by decide) rfl ?_
                refine j_aload_n jb dX12_pack_205 1 rfl ?_
                refine j_aload_n jb dX12_pack_206 1 rfl ?_
                refine j_get jb f_X12_13 dX12_pack_207 0 rfl rfl ?_
                refine j_iconst jb dX12_pack_210 ?_
                refine j_isub jb dX12_pack_211 ?_
                refine j_i2l jb dX12_pack_212 (by omega) ?_
                refine j_iconst jb dX12_pack_213 ?_
                refine j_callV (wr := [(my, aI x.g 2 cn), (sm, aI x.g 800 ss), (st, aI x.g 2400 B), (yb, aI x.g 4 oc), (pkr, aI x.g 5 pp), (rt, aI x.g 8 tt), (rk, aI x.g 32 kk), (rx, aI x.g 32 xk), (va, aI x.g 400 v1), (re, aL x.g 400 rs1), (ua, aL x.g 400 U1)]) jb k_X12_put i_X12_put s_X12_put l_X12_166 (C_X12_put x.l x.g n0 my sm st yb pkr rt rk rx si gt va re ua mk rki rea rby 0 dp sz mo ms hpk hsh vn1 wd1 wa1 pk1 px1 bp1 b202 pl cd rn rch rtn rdp rsh (dp - 1) 4 M202 (by omega) (by decide) (by omega) h202.2.1.1 h202.2.2) 0 14 rfl rfl rfl [0, 12] [1, 2, 3, 4, 5, 6, 7, 8, 9, 10, 11] (by decide) rfl rfl (by decide) (by decide) rfl rfl (Nat.le_of_ble_eq_true rfl) (by decide) dX12_pack_214 (fun v w hp => ?_)
                obtain ⟨b214, M214, rfl, rfl, h214⟩ := hp
                refine j_norm (lv' := [(5, .int (iI nbt)), (0, .ref n0), (1, .int (iI 1)), (2, .int (iI tn)), (3, .long (lI best))]) (st' := []) (ws' := [(n0, oX12 0 dp my sm st sz mo ms yb hpk pkr rt rk rx hsh si gt va vn1 wd1 wa1 re ua pk1 px1 bp1 mk b214 pl cd rn rch rtn rdp rki rea rby rsh), (my, aI x.g 2 cn), (sm, aI x.g 800 ss), (st, aI x.g 2400 B), (yb, aI x.g 4 oc), (pkr, aI x.g 5 pp), (rt, aI x.g 8 tt), (rk, aI x.g 32 kk), (rx, aI x.g 32 xk), (va, aI x.g 400 v1), (re, aL x.g 400 rs1), (ua, aL x.g 400 U1), (mk, aI x.g 4000 M214)]) [0, 1, 2, 3, 4] [11, 0, 1, 2, 3, 4, 5, 6, 7, 8, 9, 10, 12] rfl rfl (by decide) rfl ?_
                have hhd : wrote 4000 M 0 (hdB (cn 0) ch tn dp) M214 := by (rw [hch]; exact wrote_app (wrote_app (wrote_app h186.2.1 h195.2.1 (by decide) (by rw [nb_len]; omega)) h202.2.1 (by decide) (by rw [List.length_append, nb_len, nb_len]; omega)) h214.2.1 (by decide) (by rw [List.length_append, List.length_append, nb_len, nb_len, nb_len]; omega))
                have hhl := hdB_len (cn 0) ch tn dp
                have hTb : 16 + best = 16 + (bbF ss (fun i => ss (400 + i)) (cn 0) dp mo ms oc) (zT tn 0) := by (have z := hTt.2.2.1; rw [fT_1 hch (hTt.2.2.2 hch)] at z; omega)
                have hbi0 := bb_in (os := ms) (oc := oc) hn1 hdp hoo (hfo (zT tn 0) (Or.inl (by rw [hTt.2.2.2 hch]; rfl)))
                have htn0 := hTt.2.2.2 hch
                refine j_iconst jb dX12_pack_217 ?_
                refine j_istore (lv' := [(6, .int (iI 0)), (5, .int (iI nbt)), (0, .ref n0), (1, .int (iI 1)), (2, .int (iI tn)), (3, .long (lI best))]) jb dX12_pack_218 (by decide) rfl ?_
                refine j_iload jb dX12_pack_220 0 rfl ?_
                refine j_iload_n jb dX12_pack_222 3 rfl ?_
                refine j_icmp_ge (tgt := 249) jb dX12_pack_223 (by decide) (by decide) (by decide) (fun h => absurd h (by decide)) (fun _ => ?_)
                refine j_aload_n jb dX12_pack_226 2 rfl ?_
                refine j_iload_n jb dX12_pack_227 4 rfl ?_
                refine j_iload jb dX12_pack_228 0 rfl ?_
                refine j_callV (wr := [(st, aI x.g 2400 B), (yb, aI x.g 4 oc), (pkr, aI x.g 5 pp), (rt, aI x.g 8 tt), (rk, aI x.g 32 kk), (rx, aI x.g 32 xk), (re, aL x.g 400 rs1), (ua, aL x.g 400 U1), (mk, aI x.g 4000 M214)]) jb k_X12_valuesOf i_X12_valuesOf s_X12_valuesOf l_X12_174 (C_X12_valuesOf x.l x.g n0 my sm st yb pkr rt rk rx si gt va re ua mk rki rea rby 0 dp sz mo ms hpk hsh vn1 wd1 wa1 pk1 px1 bp1 b214 pl cd rn rch rtn rdp rsh tn 0 cn ss v1 (by omega) (by decide) hn1 hdp h0 (Or.inl ⟨by omega, rfl⟩)) 0 14 rfl rfl rfl [0, 1, 2, 9] [3, 4, 5, 6, 7, 8, 10, 11, 12] (by decide) rfl rfl (by decide) (by decide) rfl rfl (Nat.le_of_ble_eq_true rfl) (by decide) dX12_pack_230 (fun v w hp => ?_)
                obtain ⟨wa0d, wd0d, v0d, rfl, rfl, h2300⟩ := hp
                refine j_norm (lv' := [(6, .int (iI 0)), (5, .int (iI nbt)), (0, .ref n0), (1, .int (iI 1)), (2, .int (iI tn)), (3, .long (lI best))]) (st' := []) (ws' := [(n0, oX12 0 dp my sm st sz mo ms yb hpk pkr rt rk rx hsh si gt va (cn 0) wd0d wa0d re ua pk1 px1 bp1 mk b214 pl cd rn rch rtn rdp rki rea rby rsh), (my, aI x.g 2 cn), (sm, aI x.g 800 ss), (st, aI x.g 2400 B), (yb, aI x.g 4 oc), (pkr, aI x.g 5 pp), (rt, aI x.g 8 tt), (rk, aI x.g 32 kk), (rx, aI x.g 32 xk), (va, aI x.g 400 v0d), (re, aL x.g 400 rs1), (ua, aL x.g 400 U1), (mk, aI x.g 4000 M214)]) [0, 1, 2, 3, 4, 5] [9, 10, 11, 0, 1, 2, 3, 4, 5, 12, 6, 7, 8] rfl rfl (by decide) rfl ?_
                have hvh2300 : vOk v0d (cn 0) := vOk_strip (selR_in h0 (Or.inl (by rw [show tn = 0 by omega]; rfl))) h2300.2.1.1 h2300.2.2.2
                have hwh2300 := rbJ_in (j := zT tn 0) hdp
                have hbh2300 := val_bb (os := ms) (oc := oc) (by omega) hoo.1 h2300.1 h2300.2.2.2 h2300.2.2.1
                refine j_aload_n jb dX12_pack_233 2 rfl ?_
                refine j_iload jb dX12_pack_234 0 rfl ?_
                refine j_aload_n jb dX12_pack_236 2 rfl ?_
                refine j_callV (wr := [(my, aI x.g 2 cn), (sm, aI x.g 800 ss), (st, aI x.g 2400 B), (pkr, aI x.g 5 pp), (rt, aI x.g 8 tt), (rk, aI x.g 32 kk), (rx, aI x.g 32 xk), (mk, aI x.g 4000 M214)]) jb k_X12_bestKind i_X12_bestKind s_X12_bestKind l_X12_177 (C_X12_bestKind x.l x.g n0 my sm st yb pkr rt rk rx si gt va re ua mk rki rea rby 0 dp sz mo ms hpk hsh (cn 0) wd0d wa0d pk1 px1 bp1 b214 pl cd rn rch rtn rdp rsh v0d oc rs1 U1 hn1 (by omega) hvh2300 (by omega) (by omega) hcf) 0 14 rfl rfl rfl [0, 9, 4, 10, 11] [1, 2, 3, 5, 6, 7, 8, 12] (by decide) rfl rfl (by decide) (by decide) rfl rfl (Nat.le_of_ble_eq_true rfl) (by decide) dX12_pack_237 (fun v w hp => ?_)
                obtain ⟨kd0d, bp0e, pk0e, px0e, rs0e, U0e, rfl, rfl, h2370⟩ := hp
                refine j_norm (lv' := [(6, .int (iI 0)), (5, .int (iI nbt)), (0, .ref n0), (1, .int (iI 1)), (2, .int (iI tn)), (3, .long (lI best))]) (st' := [.int (iI kd0d), .int (iI 0), .ref n0]) (ws' := [(n0, oX12 0 dp my sm st sz mo ms yb hpk pkr rt rk rx hsh si gt va (cn 0) wd0d wa0d re ua pk0e px0e bp0e mk b214 pl cd rn rch rtn rdp rki rea rby rsh), (my, aI x.g 2 cn), (sm, aI x.g 800 ss), (st, aI x.g 2400 B), (yb, aI x.g 4 oc), (pkr, aI x.g 5 pp), (rt, aI x.g 8 tt), (rk, aI x.g 32 kk), (rx, aI x.g 32 xk), (va, aI x.g 400 v0d), (re, aL x.g 400 rs0e), (ua, aL x.g 400 U0e), (mk, aI x.g 4000 M214)]) [0, 1, 2, 3, 4, 5] [8, 0, 1, 2, 10, 3, 4, 5, 6, 9, 11, 12, 7] rfl rfl (by decide) rfl ?_
                refine j_callV (wr := [(my, aI x.g 2 cn), (sm, aI x.g 800 ss), (st, aI x.g 2400 B), (pkr, aI x.g 5 pp)]) jb k_X12_putRow i_X12_putRow s_X12_putRow l_X12_181 (C_X12_putRow x.l x.g n0 my sm st yb pkr rt rk rx si gt va re ua mk rki rea rby 0 dp sz mo ms hpk hsh (cn 0) wd0d wa0d pk0e px0e bp0e b214 pl cd rn rch rtn rdp rsh 0 kd0d v0d oc rs0e U0e M214 tt kk xk hn1 (by omega) hvh2300 (by omega) (by omega) hcf (by omega) h2370.1 (by decide) (by omega) (by rw [hbh2300]; omega) hhd.1 h214.2.2) 0 14 rfl rfl rfl [0, 9, 4, 10, 11, 12, 6, 7, 8] [1, 2, 3, 5] (by decide) rfl rfl (by decide) (by decide) rfl rfl (Nat.le_of_ble_eq_true rfl) (by decide) dX12_pack_240 (fun v w hp => ?_)
                obtain ⟨bi0f, bp0f, pk0f, px0f, p0f, rs0f, U0f, M0f, tt0f, kk0f, xk0f, K0f, X0f, rfl, rfl, h2400⟩ := hp
                refine j_norm (lv' := [(6, .int (iI 0)), (5, .int (iI nbt)), (0, .ref n0), (1, .int (iI 1)), (2, .int (iI tn)), (3, .long (lI best))]) (st' := []) (ws' := [(n0, oX12 0 dp my sm st sz mo ms yb hpk pkr rt rk rx hsh si gt va (cn 0) wd0d wa0d re ua pk0f px0f bp0f mk bi0f pl cd rn rch rtn rdp rki rea rby rsh), (my, aI x.g 2 cn), (sm, aI x.g 800 ss), (st, aI x.g 2400 B), (yb, aI x.g 4 oc), (pkr, aI x.g 5 pp), (rt, aI x.g 8 tt0f), (rk, aI x.g 32 kk0f), (rx, aI x.g 32 xk0f), (va, aI x.g 400 v0d), (re, aL x.g 400 rs0f), (ua, aL x.g 400 U0f), (mk, aI x.g 4000 M0f)]) [0, 1, 2, 3, 4, 5] [4, 0, 1, 2, 6, 3, 10, 11, 12, 5, 7, 8, 9] rfl rfl (by decide) rfl ?_
                have hfv0 := form_val hn1 hoo h2300.1 h2300.2.1 h2300.2.2.2 h2300.2.2.1 h2400.1
                rw [hbh2300] at h2400 hfv0
                have hwl0 := h2400.2.2.1
                rw [hfv0.2] at hwl0
                have hll0 : ((rowBF (selR ss (fun i => ss (400 + i)) (zFirst tn.toNat)) (cn 0) (rbJ dp (zFirst tn.toNat)) mo ms oc kd0d wa0d p0f K0f X0f).length : Int) = (bbF ss (fun i => ss (400 + i)) (cn 0) dp mo ms oc) (zT tn 0) := rowB_len (w := wa0d) hn1 (show 0 ≤ rbJ dp (zT tn 0) - wa0d by omega) hoo hfv0.1.2.2
                refine j_iinc (lv' := [(6, .int (iI 1)), (5, .int (iI nbt)), (0, .ref n0), (1, .int (iI 1)), (2, .int (iI tn)), (3, .long (lI best))]) jb dX12_pack_243 0 rfl (by decide) rfl ?_
                refine j_goto (tgt := 220) jb dX12_pack_246 (by decide) ?_
                refine j_iload jb dX12_pack_220 0 rfl ?_
                refine j_iload_n jb dX12_pack_222 3 rfl ?_
                refine j_icmp_ge (tgt := 249) jb dX12_pack_223 (by decide) (by decide) (by decide) (fun _ => ?_) (fun h => absurd h (by decide))
                refine j_aload_n jb dX12_pack_249 2 rfl ?_
                refine j_iconst jb dX12_pack_250 ?_
                refine j_put (ws' := [(n0, oX12 0 dp my sm st sz mo ms yb 1 pkr rt rk rx hsh si gt va (cn 0) wd0d wa0d re ua pk0f px0f bp0f mk bi0f pl cd rn rch rtn rdp rki rea rby rsh), (my, aI x.g 2 cn), (sm, aI x.g 800 ss), (st, aI x.g 2400 B), (yb, aI x.g 4 oc), (pkr, aI x.g 5 pp), (rt, aI x.g 8 tt0f), (rk, aI x.g 32 kk0f), (rx, aI x.g 32 xk0f), (va, aI x.g 400 v0d), (re, aL x.g 400 rs0f), (ua, aL x.g 400 U0f), (mk, aI x.g 4000 M0f)]) jb f_X12_184 w_X12_9 rfl dX12_pack_251 0 rfl rfl rfl (Nat.le_of_ble_eq_true rfl) rfl ?_
                refine j_aload_n jb dX12_pack_254 2 rfl ?_
                refine j_get jb f_X12_29 dX12_pack_255 0 rfl rfl ?_
                refine j_iconst jb dX12_pack_258 ?_
                refine j_aload_n jb dX12_pack_259 2 rfl ?_
                refine j_get jb f_X12_16 dX12_pack_260 0 rfl rfl ?_
                refine j_iconst jb dX12_pack_263 ?_
                refine j_iald jb dX12_pack_264 1 rfl (by omega) (by decide) ?_
                refine j_iast (ws' := [(n0, oX12 0 dp my sm st sz mo ms yb 1 pkr rt rk rx hsh si gt va (cn 0) wd0d wa0d re ua pk0f px0f bp0f mk bi0f pl cd rn rch rtn rdp rki rea rby rsh), (my, aI x.g 2 cn), (sm, aI x.g 800 ss), (st, aI x.g 2400 B), (yb, aI x.g 4 oc), (pkr, aI x.g 5 (zup pp 0 (cn 0))), (rt, aI x.g 8 tt0f), (rk, aI x.g 32 kk0f), (rx, aI x.g 32 xk0f), (va, aI x.g 400 v0d), (re, aL x.g 400 rs0f), (ua, aL x.g 400 U0f), (mk, aI x.g 4000 M0f)]) jb dX12_pack_265 5 rfl (by omega) (by decide) rfl ?_
                refine j_aload_n jb dX12_pack_266 2 rfl ?_
                refine j_get jb f_X12_29 dX12_pack_267 0 rfl rfl ?_
                refine j_iconst jb dX12_pack_270 ?_
                refine j_iload_n jb dX12_pack_271 3 rfl ?_
                refine j_iast (ws' := [(n0, oX12 0 dp my sm st sz mo ms yb 1 pkr rt rk rx hsh si gt va (cn 0) wd0d wa0d re ua pk0f px0f bp0f mk bi0f pl cd rn rch rtn rdp rki rea rby rsh), (my, aI x.g 2 cn), (sm, aI x.g 800 ss), (st, aI x.g 2400 B), (yb, aI x.g 4 oc), (pkr, aI x.g 5 (zup (zup pp 0 (cn 0)) 1 1)), (rt, aI x.g 8 tt0f), (rk, aI x.g 32 kk0f), (rx, aI x.g 32 xk0f), (va, aI x.g 400 v0d), (re, aL x.g 400 rs0f), (ua, aL x.g 400 U0f), (mk, aI x.g 4000 M0f)]) jb dX12_pack_272 5 rfl (by omega) (by decide) rfl ?_
                refine j_aload_n jb dX12_pack_273 2 rfl ?_
                refine j_get jb f_X12_29 dX12_pack_274 0 rfl rfl ?_
                refine j_iconst jb dX12_pack_277 ?_
                refine j_iload_n jb dX12_pack_278 4 rfl ?_
                refine j_iast (ws' := [(n0, oX12 0 dp my sm st sz mo ms yb 1 pkr rt rk rx hsh si gt va (cn 0) wd0d wa0d re ua pk0f px0f bp0f mk bi0f pl cd rn rch rtn rdp rki rea rby rsh), (my, aI x.g 2 cn), (sm, aI x.g 800 ss), (st, aI x.g 2400 B), (yb, aI x.g 4 oc), (pkr, aI x.g 5 (zup (zup (zup pp 0 (cn 0)) 1 1) 2 tn)), (rt, aI x.g 8 tt0f), (rk, aI x.g 32 kk0f), (rx, aI x.g 32 xk0f), (va, aI x.g 400 v0d), (re, aL x.g 400 rs0f), (ua, aL x.g 400 U0f), (mk, aI x.g 4000 M0f)]) jb dX12_pack_279 5 rfl (by omega) (by decide) rfl ?_
                refine j_aload_n jb dX12_pack_280 2 rfl ?_
                refine j_get jb f_X12_29 dX12_pack_281 0 rfl rfl ?_
                refine j_iconst jb dX12_pack_284 ?_
                refine j_aload_n jb dX12_pack_285 2 rfl ?_
                refine j_get jb f_X12_163 dX12_pack_286 0 rfl rfl ?_
                refine j_iast (ws' := [(n0, oX12 0 dp my sm st sz mo ms yb 1 pkr rt rk rx hsh si gt va (cn 0) wd0d wa0d re ua pk0f px0f bp0f mk bi0f pl cd rn rch rtn rdp rki rea rby rsh), (my, aI x.g 2 cn), (sm, aI x.g 800 ss), (st, aI x.g 2400 B), (yb, aI x.g 4 oc), (pkr, aI x.g 5 (zup (zup (zup (zup pp 0 (cn 0)) 1 1) 2 tn) 3 bi0f)), (rt, aI x.g 8 tt0f), (rk, aI x.g 32 kk0f), (rx, aI x.g 32 xk0f), (va, aI x.g 400 v0d), (re, aL x.g 400 rs0f), (ua, aL x.g 400 U0f), (mk, aI x.g 4000 M0f)]) jb dX12_pack_289 5 rfl (by omega) (by decide) rfl ?_
                refine j_aload_n jb dX12_pack_290 2 rfl ?_
                refine j_get jb f_X12_29 dX12_pack_291 0 rfl rfl ?_
                refine j_iconst jb dX12_pack_294 ?_
                refine j_iload jb dX12_pack_295 1 rfl ?_
                refine j_iast (ws' := [(n0, oX12 0 dp my sm st sz mo ms yb 1 pkr rt rk rx hsh si gt va (cn 0) wd0d wa0d re ua pk0f px0f bp0f mk bi0f pl cd rn rch rtn rdp rki rea rby rsh), (my, aI x.g 2 cn), (sm, aI x.g 800 ss), (st, aI x.g 2400 B), (yb, aI x.g 4 oc), (pkr, aI x.g 5 (zup (zup (zup (zup (zup pp 0 (cn 0)) 1 1) 2 tn) 3 bi0f) 4 nbt)), (rt, aI x.g 8 tt0f), (rk, aI x.g 32 kk0f), (rx, aI x.g 32 xk0f), (va, aI x.g 400 v0d), (re, aL x.g 400 rs0f), (ua, aL x.g 400 U0f), (mk, aI x.g 4000 M0f)]) jb dX12_pack_297 5 rfl (by omega) (by decide) rfl ?_
                refine j_aload_n jb dX12_pack_298 2 rfl ?_
                refine j_get jb f_X12_57 dX12_pack_299 0 rfl rfl ?_
                refine j_iload jb dX12_pack_302 1 rfl ?_
                refine j_iconst jb dX12_pack_304 ?_
                refine j_isub jb dX12_pack_305 ?_
                refine j_aload_n jb dX12_pack_306 2 rfl ?_
                refine j_aload_n jb dX12_pack_307 2 rfl ?_
                refine j_get jb f_X12_57 dX12_pack_308 0 rfl rfl ?_
                refine j_iconst jb dX12_pack_311 ?_
                refine j_iload jb dX12_pack_312 1 rfl ?_
                refine j_iconst jb dX12_pack_314 ?_
                refine j_isub jb dX12_pack_315 ?_
                refine j_callV (wr := [(my, aI x.g 2 cn), (sm, aI x.g 800 ss), (st, aI x.g 2400 B), (yb, aI x.g 4 oc), (pkr, aI x.g 5 (zup (zup (zup (zup (zup pp 0 (cn 0)) 1 1) 2 tn) 3 bi0f) 4 nbt)), (rt, aI x.g 8 tt0f), (rk, aI x.g 32 kk0f), (rx, aI x.g 32 xk0f), (va, aI x.g 400 v0d), (re, aL x.g 400 rs0f), (ua, aL x.g 400 U0f)]) jb k_X12_sumOf i_X12_sumOf s_X12_sumOf l_X12_188 (C_X12_sumOf_m x.l x.g n0 my sm st yb pkr rt rk rx si gt va re ua mk rki rea rby 0 dp sz mo ms 1 hsh (cn 0) wd0d wa0d pk0f px0f bp0f bi0f pl cd rn rch rtn rdp rsh 0 (nbt - 1) M0f (by omega) h2400.2.2.1.1) 0 14 rfl rfl rfl [0, 12] [1, 2, 3, 4, 5, 6, 7, 8, 9, 10, 11] (by decide) rfl rfl (by decide) (by decide) rfl rfl (Nat.le_of_ble_eq_true rfl) (by decide) dX12_pack_316 (fun v w hp => ?_)
                obtain ⟨r316, rfl, rfl, h316⟩ := hp
                refine j_norm (lv' := [(6, .int (iI 1)), (5, .int (iI nbt)), (0, .ref n0), (1, .int (iI 1)), (2, .int (iI tn)), (3, .long (lI best))]) (st' := [.int (iI r316), .int (iI (nbt - 1)), .ref mk]) (ws' := [(n0, oX12 0 dp my sm st sz mo ms yb 1 pkr rt rk rx hsh si gt va (cn 0) wd0d wa0d re ua pk0f px0f bp0f mk bi0f pl cd rn rch rtn rdp rki rea rby rsh), (my, aI x.g 2 cn), (sm, aI x.g 800 ss), (st, aI x.g 2400 B), (yb, aI x.g 4 oc), (pkr, aI x.g 5 (zup (zup (zup (zup (zup pp 0 (cn 0)) 1 1) 2 tn) 3 bi0f) 4 nbt)), (rt, aI x.g 8 tt0f), (rk, aI x.g 32 kk0f), (rx, aI x.g 32 xk0f), (va, aI x.g 400 v0d), (re, aL x.g 400 rs0f), (ua, aL x.g 400 U0f), (mk, aI x.g 4000 M0f)]) [0, 1, 2, 3, 4, 5] [11, 0, 1, 2, 3, 4, 5, 6, 7, 8, 9, 10, 12] rfl rfl (by decide) rfl ?_
                refine j_iast (ws' := [(n0, oX12 0 dp my sm st sz mo ms yb 1 pkr rt rk rx hsh si gt va (cn 0) wd0d wa0d re ua pk0f px0f bp0f mk bi0f pl cd rn rch rtn rdp rki rea rby rsh), (my, aI x.g 2 cn), (sm, aI x.g 800 ss), (st, aI x.g 2400 B), (yb, aI x.g 4 oc), (pkr, aI x.g 5 (zup (zup (zup (zup (zup pp 0 (cn 0)) 1 1) 2 tn) 3 bi0f) 4 nbt)), (rt, aI x.g 8 tt0f), (rk, aI x.g 32 kk0f), (rx, aI x.g 32 xk0f), (va, aI x.g 400 v0d), (re, aL x.g 400 rs0f), (ua, aL x.g 400 U0f), (mk, aI x.g 4000 (zup M0f (nbt - 1) r316))]) jb dX12_pack_319 12 rfl (by omega) (by decide) rfl ?_
                refine j_aload_n jb dX12_pack_320 2 rfl ?_
                refine j_get jb f_X12_69 dX12_pack_321 0 rfl rfl ?_
                refine j_istore (lv' := [(6, .int (iI sz)), (5, .int (iI nbt)), (0, .ref n0), (1, .int (iI 1)), (2, .int (iI tn)), (3, .long (lI best))]) jb dX12_pack_324 (by decide) rfl ?_
                refine j_iconst jb dX12_pack_326 ?_
                refine j_istore (lv' := [(7, .int (iI 0)), (6, .int (iI sz)), (5, .int (iI nbt)), (0, .ref n0), (1, .int (iI 1)), (2, .int (iI tn)), (3, .long (lI best))]) jb dX12_pack_327 (by decide) rfl ?_
                have L329 : ∀ (fu : Nat) (i s1 : Int) (B1 : Int → Int), (0 ≤ i ∧ i ≤ nbt ∧ s1 = sz + i ∧ (∀ k, 0 ≤ k → k < i → B1 (sz + k) = zup M0f (nbt - 1) r316 k) ∧ (∀ j, (j < sz ∨ sz + i ≤ j) → B1 j = B j)) → (nbt - i).toNat < fu → JW x 0 0 329 [(0, .ref n0), (1, .int (iI 1)), (2, .int (iI tn)), (3, .long (lI best)), (5, .int (iI nbt)), (6, .int (iI sz)), (7, .int (iI i))] [] [(n0, oX12 0 dp my sm st s1 mo ms yb 1 pkr rt rk rx hsh si gt va (cn 0) wd0d wa0d re ua pk0f px0f bp0f mk bi0f pl cd rn rch rtn rdp rki rea rby rsh), (my, aI x.g 2 cn), (sm, aI x.g 800 ss), (st, aI x.g 2400 B1), (yb, aI x.g 4 oc), (pkr, aI x.g 5 (zup (zup (zup (zup (zup pp 0 (cn 0)) 1 1) 2 tn) 3 bi0f) 4 nbt)), (rt, aI x.g 8 tt0f), (rk, aI x.g 32 kk0f), (rx, aI x.g 32 xk0f), (va, aI x.g 400 v0d), (re, aL x.g 400 rs0f), (ua, aL x.g 400 U0f), (mk, aI x.g 4000 (zup M0f (nbt - 1) r316))] := by
                  intro fu
                  induction fu with
                  | zero => intro i s1 B1 _ hm; exact absurd hm (by omega)
                  | succ fu ih =>
                    intro i s1 B1 ⟨hk1, hk2, hk5, hk3, hk4⟩ hm329
                    have ih329 := ih
                    clear ih
                    refine j_iload jb dX12_pack_329 6 rfl ?_
                    refine j_iload jb dX12_pack_331 4 rfl ?_
                    refine j_icmp_ge (tgt := 368) jb dX12_pack_333 (by decide) (by omega) (by omega) (fun c_333 => ?_) (fun c_333 => ?_)
                    · skip
                      refine j_iload jb dX12_pack_368 5 rfl ?_
                      refine j_norm (lv' := []) (st' := [.int (iI sz)]) (ws' := [(n0, oX12 0 dp my sm st s1 mo ms yb 1 pkr rt rk rx hsh si gt va (cn 0) wd0d wa0d re ua pk0f px0f bp0f mk bi0f pl cd rn rch rtn rdp rki rea rby rsh), (my, aI x.g 2 cn), (sm, aI x.g 800 ss), (st, aI x.g 2400 B1), (yb, aI x.g 4 oc), (pkr, aI x.g 5 (zup (zup (zup (zup (zup pp 0 (cn 0)) 1 1) 2 tn) 3 bi0f) 4 nbt)), (rt, aI x.g 8 tt0f), (rk, aI x.g 32 kk0f), (rx, aI x.g 32 xk0f), (va, aI x.g 400 v0d), (re, aL x.g 400 rs0f), (ua, aL x.g 400 U0f), (mk, aI x.g 4000 (zup M0f (nbt - 1) r316))]) [] [0, 1, 2, 3, 4, 5, 6, 7, 8, 9, 10, 11, 12] rfl rfl (by decide) rfl ?_
                      exact j_iret jb jr dX12_pack_370 (by have hwp : wrote 4000 M 0 (pkL ss (fun i => ss (400 + i)) (cn 0) ch dp mo ms oc tn kd0d wa0d p0f K0f X0f 0 0 0 K0f X0f) M0f := (by unfold pkL; rw [if_neg (by omega), List.append_nil]; exact wrote_app hhd hwl0 (by decide) (by omega)); have hln : 16 + best = ((pkL ss (fun i => ss (400 + i)) (cn 0) ch dp mo ms oc tn kd0d wa0d p0f K0f X0f 0 0 0 K0f X0f)).length := (by unfold pkL; rw [if_neg (by omega), List.append_nil, List.length_append]; omega); have hfc := frame_copy (T := 16 + best) (nbt := nbt) hl.1 hB hwp hln (by rw [show 16 + best = bi0f by omega]; exact h2400.2.2.2.1) (by omega) (by omega) (fun k a b => by rw [hk3 k a (by omega), h316.1, show nbt - 1 - 0 = nbt - 1 by omega]) (fun j a => hk4 j (Or.inl a)) (fun j a => hk4 j (Or.inr (by omega))); exact ⟨_, _, _, _, _, _, _, _, _, _, ch, tn, 16 + best, kd0d, wa0d, (bbF ss (fun i => ss (400 + i)) (cn 0) dp mo ms oc) (zT tn 0), p0f, 0, 0, 0, 0, _, _, _, _, _, _, _, _, _, K0f, X0f, K0f, X0f, rfl, rfl, (fun j a b => by (by_cases e : j = nbt - 1); { rw [e, zup_s]; exact h316.2 }; { rw [zup_n e]; exact hwp.1 j a b }), Or.inr (Or.inr ⟨hno, rfl, rfl, hch.trans (by rw [if_pos hc1]), ⟨by rw [zup_n (by decide), zup_n (by decide), zup_n (by decide), zup_n (by decide), zup_s], by rw [zup_n (by decide), zup_n (by decide), zup_n (by decide), zup_s]; exact hch.symm, by rw [zup_n (by decide), zup_n (by decide), zup_s], by rw [zup_n (by decide), zup_s]; omega, by rw [zup_s]; omega⟩, (by rw [if_pos hc1, ← hch]; exact hTt.1), by omega, by omega, by omega, by omega, hfv0.1, (fun z => absurd z (by omega)), hfc.1, hfc.2, ⟨h2400.2.2.2.2.1, h2400.2.2.2.2.2.1, h2400.2.2.2.2.2.2.1, h2400.2.2.2.2.2.2.2.1⟩, (fun j a b => by have z := h2400.2.2.2.2.2.2.2.2.1 j a b; rw [show 16 * 0 + j = j by omega] at z; exact z), (fun z => absurd z (by omega)), (fun _ => h2400.2.2.2.2.2.2.2.2.2.1 7 (by omega))⟩)⟩)
                    · skip
                      refine j_aload_n jb dX12_pack_336 0 rfl ?_
                      refine j_get jb f_X12_23 dX12_pack_337 0 rfl rfl ?_
                      refine j_aload_n jb dX12_pack_340 0 rfl ?_
                      refine j_get jb f_X12_69 dX12_pack_341 0 rfl rfl ?_
                      refine j_aload_n jb dX12_pack_344 0 rfl ?_
                      refine j_get jb f_X12_57 dX12_pack_345 0 rfl rfl ?_
                      refine j_iload jb dX12_pack_348 6 rfl ?_
                      refine j_iald jb dX12_pack_350 12 rfl (by omega) (by decide) ?_
                      refine j_iast (ws' := [(n0, oX12 0 dp my sm st s1 mo ms yb 1 pkr rt rk rx hsh si gt va (cn 0) wd0d wa0d re ua pk0f px0f bp0f mk bi0f pl cd rn rch rtn rdp rki rea rby rsh), (my, aI x.g 2 cn), (sm, aI x.g 800 ss), (st, aI x.g 2400 (zup B1 s1 ((zup M0f (nbt - 1) r316) i))), (yb, aI x.g 4 oc), (pkr, aI x.g 5 (zup (zup (zup (zup (zup pp 0 (cn 0)) 1 1) 2 tn) 3 bi0f) 4 nbt)), (rt, aI x.g 8 tt0f), (rk, aI x.g 32 kk0f), (rx, aI x.g 32 xk0f), (va, aI x.g 400 v0d), (re, aL x.g 400 rs0f), (ua, aL x.g 400 U0f), (mk, aI x.g 4000 (zup M0f (nbt - 1) r316))]) jb dX12_pack_351 3 rfl (by omega) (by decide) rfl ?_
                      refine j_aload_n jb dX12_pack_352 0 rfl ?_
                      refine j_dup jb dX12_pack_353 rfl ?_
                      refine j_get jb f_X12_69 dX12_pack_354 0 rfl rfl ?_
                      refine j_iconst jb dX12_pack_357 ?_
                      refine j_iadd jb dX12_pack_358 ?_
                      refine j_put (ws' := [(n0, oX12 0 dp my sm st (s1 + 1) mo ms yb 1 pkr rt rk rx hsh si gt va (cn 0) wd0d wa0d re ua pk0f px0f bp0f mk bi0f pl cd rn rch rtn rdp rki rea rby rsh), (my, aI x.g 2 cn), (sm, aI x.g 800 ss), (st, aI x.g 2400 (zup B1 s1 ((zup M0f (nbt - 1) r316) i))), (yb, aI x.g 4 oc), (pkr, aI x.g 5 (zup (zup (zup (zup (zup pp 0 (cn 0)) 1 1) 2 tn) 3 bi0f) 4 nbt)), (rt, aI x.g 8 tt0f), (rk, aI x.g 32 kk0f), (rx, aI x.g 32 xk0f), (va, aI x.g 400 v0d), (re, aL x.g 400 rs0f), (ua, aL x.g 400 U0f), (mk, aI x.g 4000 (zup M0f (nbt - 1) r316))]) jb f_X12_69 w_X12_5 rfl dX12_pack_359 0 rfl rfl rfl (Nat.le_of_ble_eq_true rfl) rfl ?_
                      refine j_iinc (lv' := [(7, .int (iI (i + 1))), (0, .ref n0), (1, .int (iI 1)), (2, .int (iI tn)), (3, .long (lI best)), (5, .int (iI nbt)), (6, .int (iI sz))]) jb dX12_pack_362 6 rfl (by decide) rfl ?_
                      refine j_goto (tgt := 329) jb dX12_pack_365 (by decide) ?_
                      refine j_norm (lv' := [(0, .ref n0), (1, .int (iI 1)), (2, .int (iI tn)), (3, .long (lI best)), (5, .int (iI nbt)), (6, .int (iI sz)), (7, .int (iI (i + 1)))]) (st' := []) (ws' := [(n0, oX12 0 dp my sm st (s1 + 1) mo ms yb 1 pkr rt rk rx hsh si gt va (cn 0) wd0d wa0d re ua pk0f px0f bp0f mk bi0f pl cd rn rch rtn rdp rki rea rby rsh), (my, aI x.g 2 cn), (sm, aI x.g 800 ss), (st, aI x.g 2400 (zup B1 s1 ((zup M0f (nbt - 1) r316) i))), (yb, aI x.g 4 oc), (pkr, aI x.g 5 (zup (zup (zup (zup (zup pp 0 (cn 0)) 1 1) 2 tn) 3 bi0f) 4 nbt)), (rt, aI x.g 8 tt0f), (rk, aI x.g 32 kk0f), (rx, aI x.g 32 xk0f), (va, aI x.g 400 v0d), (re, aL x.g 400 rs0f), (ua, aL x.g 400 U0f), (mk, aI x.g 4000 (zup M0f (nbt - 1) r316))]) [1, 2, 3, 4, 5, 6, 0] [0, 1, 2, 3, 4, 5, 6, 7, 8, 9, 10, 11, 12] rfl rfl (by decide) rfl ?_
                      exact ih329 (i + 1) (s1 + 1) (zup B1 s1 ((zup M0f (nbt - 1) r316) i)) ⟨by omega, by omega, by omega, fun k a b => by (by_cases e : k = i); { rw [e, show sz + i = s1 by omega, zup_s] }; { rw [zup_n (by omega)]; exact hk3 k a (by omega) }, fun j a => by rw [zup_n (by omega)]; exact hk4 j (by omega)⟩ (by omega)
                refine j_norm (lv' := [(0, .ref n0), (1, .int (iI 1)), (2, .int (iI tn)), (3, .long (lI best)), (5, .int (iI nbt)), (6, .int (iI sz)), (7, .int (iI 0))]) (st' := []) (ws' := [(n0, oX12 0 dp my sm st sz mo ms yb 1 pkr rt rk rx hsh si gt va (cn 0) wd0d wa0d re ua pk0f px0f bp0f mk bi0f pl cd rn rch rtn rdp rki rea rby rsh), (my, aI x.g 2 cn), (sm, aI x.g 800 ss), (st, aI x.g 2400 B), (yb, aI x.g 4 oc), (pkr, aI x.g 5 (zup (zup (zup (zup (zup pp 0 (cn 0)) 1 1) 2 tn) 3 bi0f) 4 nbt)), (rt, aI x.g 8 tt0f), (rk, aI x.g 32 kk0f), (rx, aI x.g 32 xk0f), (va, aI x.g 400 v0d), (re, aL x.g 400 rs0f), (ua, aL x.g 400 U0f), (mk, aI x.g 4000 (zup M0f (nbt - 1) r316))]) [3, 4, 5, 6, 2, 1, 0] [0, 1, 2, 3, 4, 5, 6, 7, 8, 9, 10, 11, 12] rfl rfl (by decide) rfl ?_
                exact L329 _ 0 sz B ⟨by decide, by omega, by omega, fun k a b => by omega, fun _ _ => rfl⟩ (Nat.lt_succ_self _)
              · skip
                refine j_bipush jb dX12_pack_166 (by decide) ?_
                refine j_norm (lv' := []) (st' := [.int (iI (-4))]) (ws' := [(n0, oX12 0 dp my sm st sz mo ms yb hpk pkr rt rk rx hsh si gt va vn1 wd1 wa1 re ua pk1 px1 bp1 mk bi pl cd rn rch rtn rdp rki rea rby rsh), (my, aI x.g 2 cn), (sm, aI x.g 800 ss), (st, aI x.g 2400 B), (yb, aI x.g 4 oc), (pkr, aI x.g 5 pp), (rt, aI x.g 8 tt), (rk, aI x.g 32 kk), (rx, aI x.g 32 xk), (va, aI x.g 400 v1), (re, aL x.g 400 rs1), (ua, aL x.g 400 U1), (mk, aI x.g 4000 M)]) [] [0, 1, 2, 3, 4, 5, 6, 7, 8, 9, 10, 11, 12] rfl rfl (by decide) rfl ?_
                exact j_iret jb jr dX12_pack_168 (by first | exact ⟨_, _, _, _, _, _, _, _, _, _, 0, 0, 0, 0, 0, 0, 0, 0, 0, 0, 0, _, _, _, _, _, _, _, _, _, z0, z0, z0, z0, rfl, rfl, hM, Or.inr (Or.inl ⟨hno, ⟨_, _, by rw [if_pos hc1, ← hch]; exact hTt.1, by omega⟩, rfl, rfl, rfl, rfl, rfl, rfl, rfl, rfl⟩)⟩ | exact ⟨_, _, _, _, _, _, _, _, _, _, 0, 0, 0, 0, 0, 0, 0, 0, 0, 0, 0, _, _, _, _, _, _, _, _, _, z0, z0, z0, z0, rfl, rfl, hM, Or.inr (Or.inl ⟨hno, ⟨_, _, by rw [if_neg hc1, ← hch]; exact hTt.1, by omega⟩, rfl, rfl, rfl, rfl, rfl, rfl, rfl, rfl⟩)⟩)
            · skip
              refine j_lconst (z := 0) jb dX12_pack_80 rfl ?_
              refine j_lstore (lv' := [(6, .long (lI 0)), (0, .ref n0), (1, .int (iI 1)), (2, .int (iI tn)), (3, .long (lI best)), (5, .int (iI t))]) jb dX12_pack_81 (by decide) rfl ?_
              refine j_iconst jb dX12_pack_83 ?_
              refine j_istore (lv' := [(8, .int (iI 0)), (6, .long (lI 0)), (0, .ref n0), (1, .int (iI 1)), (2, .int (iI tn)), (3, .long (lI best)), (5, .int (iI t))]) jb dX12_pack_84 (by decide) rfl ?_
              refine j_iload jb dX12_pack_86 0 rfl ?_
              refine j_iload_n jb dX12_pack_88 3 rfl ?_
              refine j_icmp_ge (tgt := 119) jb dX12_pack_89 (by decide) (by decide) (by decide) (fun h => absurd h (by decide)) (fun _ => ?_)
              refine j_aload_n jb dX12_pack_92 2 rfl ?_
              refine j_iload jb dX12_pack_93 6 rfl ?_
              refine j_iload jb dX12_pack_95 0 rfl ?_
              refine j_callV (wr := [(st, aI x.g 2400 B), (yb, aI x.g 4 oc), (pkr, aI x.g 5 pp), (rt, aI x.g 8 tt), (rk, aI x.g 32 kk), (rx, aI x.g 32 xk), (re, aL x.g 400 rs1), (ua, aL x.g 400 U1), (mk, aI x.g 4000 M)]) jb k_X12_valuesOf i_X12_valuesOf s_X12_valuesOf l_X12_174 (C_X12_valuesOf x.l x.g n0 my sm st yb pkr rt rk rx si gt va re ua mk rki rea rby 0 dp sz mo ms hpk hsh vn1 wd1 wa1 pk1 px1 bp1 bi pl cd rn rch rtn rdp rsh t 0 cn ss v1 (by omega) (by decide) hn1 hdp h0 (Or.inl ⟨by omega, rfl⟩)) 0 14 rfl rfl rfl [0, 1, 2, 9] [3, 4, 5, 6, 7, 8, 10, 11, 12] (by decide) rfl rfl (by decide) (by decide) rfl rfl (Nat.le_of_ble_eq_true rfl) (by decide) dX12_pack_97 (fun v w hp => ?_)
              obtain ⟨wa0a, wd0a, v0a, rfl, rfl, h970⟩ := hp
              refine j_norm (lv' := [(8, .int (iI 0)), (6, .long (lI 0)), (0, .ref n0), (1, .int (iI 1)), (2, .int (iI tn)), (3, .long (lI best)), (5, .int (iI t))]) (st' := []) (ws' := [(n0, oX12 0 dp my sm st sz mo ms yb hpk pkr rt rk rx hsh si gt va (cn 0) wd0a wa0a re ua pk1 px1 bp1 mk bi pl cd rn rch rtn rdp rki rea rby rsh), (my, aI x.g 2 cn), (sm, aI x.g 800 ss), (st, aI x.g 2400 B), (yb, aI x.g 4 oc), (pkr, aI x.g 5 pp), (rt, aI x.g 8 tt), (rk, aI x.g 32 kk), (rx, aI x.g 32 xk), (va, aI x.g 400 v0a), (re, aL x.g 400 rs1), (ua, aL x.g 400 U1), (mk, aI x.g 4000 M)]) [0, 1, 2, 3, 4, 5, 6] [9, 10, 11, 0, 1, 2, 3, 4, 5, 12, 6, 7, 8] rfl rfl (by decide) rfl ?_
              have hvh970 : vOk v0a (cn 0) := vOk_strip (selR_in h0 (Or.inl (by rw [show t = 0 by omega]; rfl))) h970.2.1.1 h970.2.2.2
              have hwh970 := rbJ_in (j := zT t 0) hdp
              have hbh970 := val_bb (os := ms) (oc := oc) (by omega) hoo.1 h970.1 h970.2.2.2 h970.2.2.1
              refine j_lload jb dX12_pack_100 1 rfl ?_
              refine j_aload_n jb dX12_pack_102 2 rfl ?_
              refine j_aload_n jb dX12_pack_103 2 rfl ?_
              refine j_callV (wr := [(my, aI x.g 2 cn), (sm, aI x.g 800 ss), (st, aI x.g 2400 B), (pkr, aI x.g 5 pp), (rt, aI x.g 8 tt), (rk, aI x.g 32 kk), (rx, aI x.g 32 xk), (mk, aI x.g 4000 M)]) jb k_X12_bestKind i_X12_bestKind s_X12_bestKind l_X12_177 (C_X12_bestKind x.l x.g n0 my sm st yb pkr rt rk rx si gt va re ua mk rki rea rby 0 dp sz mo ms hpk hsh (cn 0) wd0a wa0a pk1 px1 bp1 bi pl cd rn rch rtn rdp rsh v0a oc rs1 U1 hn1 (by omega) hvh970 (by omega) (by omega) hcf) 0 14 rfl rfl rfl [0, 9, 4, 10, 11] [1, 2, 3, 5, 6, 7, 8, 12] (by decide) rfl rfl (by decide) (by decide) rfl rfl (Nat.le_of_ble_eq_true rfl) (by decide) dX12_pack_104 (fun v w hp => ?_)
              obtain ⟨kd0a, bp0b, pk0b, px0b, rs0b, U0b, rfl, rfl, h1040⟩ := hp
              refine j_norm (lv' := [(8, .int (iI 0)), (6, .long (lI 0)), (0, .ref n0), (1, .int (iI 1)), (2, .int (iI tn)), (3, .long (lI best)), (5, .int (iI t))]) (st' := [.int (iI kd0a), .ref n0, .long (lI 0)]) (ws' := [(n0, oX12 0 dp my sm st sz mo ms yb hpk pkr rt rk rx hsh si gt va (cn 0) wd0a wa0a re ua pk0b px0b bp0b mk bi pl cd rn rch rtn rdp rki rea rby rsh), (my, aI x.g 2 cn), (sm, aI x.g 800 ss), (st, aI x.g 2400 B), (yb, aI x.g 4 oc), (pkr, aI x.g 5 pp), (rt, aI x.g 8 tt), (rk, aI x.g 32 kk), (rx, aI x.g 32 xk), (va, aI x.g 400 v0a), (re, aL x.g 400 rs0b), (ua, aL x.g 400 U0b), (mk, aI x.g 4000 M)]) [0, 1, 2, 3, 4, 5, 6] [8, 0, 1, 2, 10, 3, 4, 5, 6, 9, 11, 12, 7] rfl rfl (by decide) rfl ?_
              refine j_callV (wr := [(my, aI x.g 2 cn), (sm, aI x.g 800 ss), (st, aI x.g 2400 B), (pkr, aI x.g 5 pp), (rt, aI x.g 8 tt), (rk, aI x.g 32 kk), (rx, aI x.g 32 xk), (mk, aI x.g 4000 M)]) jb k_X12_bitsOf i_X12_bitsOf s_X12_bitsOf l_X12_156 (C_X12_bitsOf x.l x.g n0 my sm st yb pkr rt rk rx si gt va re ua mk rki rea rby 0 dp sz mo ms hpk hsh (cn 0) wd0a wa0a pk0b px0b bp0b bi pl cd rn rch rtn rdp rsh kd0a v0a oc rs0b U0b hn1 (by omega) hvh970 (by omega) (by omega) hcf (by omega)) 0 14 rfl rfl rfl [0, 9, 4, 10, 11] [1, 2, 3, 5, 6, 7, 8, 12] (by decide) rfl rfl (by decide) (by decide) rfl rfl (Nat.le_of_ble_eq_true rfl) (by decide) dX12_pack_107 (fun v w hp => ?_)
              obtain ⟨rb0a, bp0c, pk0c, px0c, rs0c, U0c, rfl, rfl, h1070⟩ := hp
              refine j_norm (lv' := [(8, .int (iI 0)), (6, .long (lI 0)), (0, .ref n0), (1, .int (iI 1)), (2, .int (iI tn)), (3, .long (lI best)), (5, .int (iI t))]) (st' := [.long (lI rb0a), .long (lI 0)]) (ws' := [(n0, oX12 0 dp my sm st sz mo ms yb hpk pkr rt rk rx hsh si gt va (cn 0) wd0a wa0a re ua pk0c px0c bp0c mk bi pl cd rn rch rtn rdp rki rea rby rsh), (my, aI x.g 2 cn), (sm, aI x.g 800 ss), (st, aI x.g 2400 B), (yb, aI x.g 4 oc), (pkr, aI x.g 5 pp), (rt, aI x.g 8 tt), (rk, aI x.g 32 kk), (rx, aI x.g 32 xk), (va, aI x.g 400 v0a), (re, aL x.g 400 rs0c), (ua, aL x.g 400 U0c), (mk, aI x.g 4000 M)]) [0, 1, 2, 3, 4, 5, 6] [8, 0, 1, 2, 10, 3, 4, 5, 6, 9, 11, 12, 7] rfl rfl (by decide) rfl ?_
              have hr0 := bits_bb (os := ms) (oc := oc) hn1 (by omega) hoo h1040.1 h1070.1
              rw [hbh970] at hr0
              have ha : 0 + rb0a + 16 = fT ch (bbF ss (fun i => ss (400 + i)) (cn 0) dp mo ms oc) t.toNat := by (rw [fT_1 hch (by omega)]; omega)
              refine j_ladd jb dX12_pack_110 ?_
              refine j_lstore (lv' := [(6, .long (lI (0 + rb0a))), (8, .int (iI 0)), (0, .ref n0), (1, .int (iI 1)), (2, .int (iI tn)), (3, .long (lI best)), (5, .int (iI t))]) jb dX12_pack_111 (by decide) rfl ?_
              refine j_iinc (lv' := [(8, .int (iI 1)), (6, .long (lI (0 + rb0a))), (0, .ref n0), (1, .int (iI 1)), (2, .int (iI tn)), (3, .long (lI best)), (5, .int (iI t))]) jb dX12_pack_113 1 rfl (by decide) rfl ?_
              refine j_goto (tgt := 86) jb dX12_pack_116 (by decide) ?_
              refine j_iload jb dX12_pack_86 0 rfl ?_
              refine j_iload_n jb dX12_pack_88 3 rfl ?_
              refine j_icmp_ge (tgt := 119) jb dX12_pack_89 (by decide) (by decide) (by decide) (fun _ => ?_) (fun h => absurd h (by decide))
              refine j_lload jb dX12_pack_119 1 rfl ?_
              refine j_lload_n jb dX12_pack_121 5 rfl ?_
              refine j_lcmp_ge (tgt := 132) jb dX12_pack_122 dX12_pack_123 (by decide) (by omega) (by omega) (fun c_122 => ?_) (fun c_122 => ?_)
              · skip
                refine j_iinc (lv' := [(5, .int (iI (t + 1))), (8, .int (iI 1)), (6, .long (lI (0 + rb0a))), (0, .ref n0), (1, .int (iI 1)), (2, .int (iI tn)), (3, .long (lI best))]) jb dX12_pack_132 6 rfl (by decide) rfl ?_
                refine j_goto (tgt := 65) jb dX12_pack_135 (by decide) ?_
                refine j_norm (lv' := [(0, .ref n0), (1, .int (iI 1)), (2, .int (iI tn)), (3, .long (lI best)), (5, .int (iI (t + 1)))]) (st' := []) (ws' := [(n0, oX12 0 dp my sm st sz mo ms yb hpk pkr rt rk rx hsh si gt va (cn 0) wd0a wa0a re ua pk0c px0c bp0c mk bi pl cd rn rch rtn rdp rki rea rby rsh), (my, aI x.g 2 cn), (sm, aI x.g 800 ss), (st, aI x.g 2400 B), (yb, aI x.g 4 oc), (pkr, aI x.g 5 pp), (rt, aI x.g 8 tt), (rk, aI x.g 32 kk), (rx, aI x.g 32 xk), (va, aI x.g 400 v0a), (re, aL x.g 400 rs0c), (ua, aL x.g 400 U0c), (mk, aI x.g 4000 M)]) [3, 4, 5, 6, 0] [0, 1, 2, 3, 4, 5, 6, 7, 8, 9, 10, 11, 12] rfl rfl (by decide) rfl ?_
                exact ih65 tn best (t + 1) (cn 0) wd0a wa0a bp0c pk0c px0c v0a rs0c U0c (by first | exact ⟨by omega, by omega, by omega, by omega, by omega, tInv_new hi1 hi6 ha (by omega)⟩ | exact ⟨by omega, by omega, by omega, by omega, by omega, tInv_old hi6 ha (by omega) (by omega)⟩) (by omega)
              · skip
                refine j_lload jb dX12_pack_126 1 rfl ?_
                refine j_lstore_n (lv' := [(3, .long (lI (0 + rb0a))), (8, .int (iI 1)), (6, .long (lI (0 + rb0a))), (0, .ref n0), (1, .int (iI 1)), (2, .int (iI tn)), (5, .int (iI t))]) jb dX12_pack_128 rfl (by decide) rfl ?_
                refine j_iload jb dX12_pack_129 6 rfl ?_
                refine j_istore_n (lv' := [(2, .int (iI t)), (3, .long (lI (0 + rb0a))), (8, .int (iI 1)), (6, .long (lI (0 + rb0a))), (0, .ref n0), (1, .int (iI 1)), (5, .int (iI t))]) jb dX12_pack_131 rfl (by decide) rfl ?_
                refine j_iinc (lv' := [(5, .int (iI (t + 1))), (2, .int (iI t)), (3, .long (lI (0 + rb0a))), (8, .int (iI 1)), (6, .long (lI (0 + rb0a))), (0, .ref n0), (1, .int (iI 1))]) jb dX12_pack_132 6 rfl (by decide) rfl ?_
                refine j_goto (tgt := 65) jb dX12_pack_135 (by decide) ?_
                refine j_norm (lv' := [(0, .ref n0), (1, .int (iI 1)), (2, .int (iI t)), (3, .long (lI (0 + rb0a))), (5, .int (iI (t + 1)))]) (st' := []) (ws' := [(n0, oX12 0 dp my sm st sz mo ms yb hpk pkr rt rk rx hsh si gt va (cn 0) wd0a wa0a re ua pk0c px0c bp0c mk bi pl cd rn rch rtn rdp rki rea rby rsh), (my, aI x.g 2 cn), (sm, aI x.g 800 ss), (st, aI x.g 2400 B), (yb, aI x.g 4 oc), (pkr, aI x.g 5 pp), (rt, aI x.g 8 tt), (rk, aI x.g 32 kk), (rx, aI x.g 32 xk), (va, aI x.g 400 v0a), (re, aL x.g 400 rs0c), (ua, aL x.g 400 U0c), (mk, aI x.g 4000 M)]) [5, 6, 1, 2, 0] [0, 1, 2, 3, 4, 5, 6, 7, 8, 9, 10, 11, 12] rfl rfl (by decide) rfl ?_
                exact ih65 t (0 + rb0a) (t + 1) (cn 0) wd0a wa0a bp0c pk0c px0c v0a rs0c U0c (by first | exact ⟨by omega, by omega, by omega, by omega, by omega, tInv_new hi1 hi6 ha (by omega)⟩ | exact ⟨by omega, by omega, by omega, by omega, by omega, tInv_old hi6 ha (by omega) (by omega)⟩) (by omega)
        refine j_norm (lv' := [(0, .ref n0), (1, .int (iI 1)), (2, .int (iI 0)), (3, .long (lI 1000000000)), (5, .int (iI 0))]) (st' := []) (ws' := [(n0, oX12 0 dp my sm st sz mo ms yb hpk pkr rt rk rx hsh si gt va vn wd wa re ua pkk pxx bp mk bi pl cd rn rch rtn rdp rki rea rby rsh), (my, aI x.g 2 cn), (sm, aI x.g 800 ss), (st, aI x.g 2400 B), (yb, aI x.g 4 oc), (pkr, aI x.g 5 pp), (rt, aI x.g 8 tt), (rk, aI x.g 32 kk), (rx, aI x.g 32 xk), (va, aI x.g 400 val), (re, aL x.g 400 rs), (ua, aL x.g 400 U), (mk, aI x.g 4000 M)]) [4, 3, 2, 1, 0] [0, 1, 2, 3, 4, 5, 6, 7, 8, 9, 10, 11, 12] rfl rfl (by decide) rfl ?_
        exact L65 _ 0 1000000000 0 vn wd wa bp pkk pxx val rs U ⟨by decide, fun _ => by decide, fun _ => by decide, by decide, by decide, Or.inl ⟨rfl, rfl, rfl⟩⟩ (Nat.lt_succ_self _)
      · skip
        obtain ⟨ch, hch⟩ : ∃ ch : Int, ch = 2 := ⟨_, rfl⟩
        have hc1 : ¬ cn 1 = 0 := by omega
        have hsec : ∀ i, 0 ≤ i → i < cn 0 → -32768 ≤ ss (400 + i) ∧ ss (400 + i) < 32768 := fun i a b => hs1 i a (by omega)
        have hfo : ∀ j, (j = 0 ∨ ch = 2) → ∃ kd ws p K X, formOf (selR ss (fun i => ss (400 + i)) j) (cn 0) (rbJ dp j) mo ms oc kd ws ((bbF ss (fun i => ss (400 + i)) (cn 0) dp mo ms oc) j) p K X := fun j _ => form_all hn1 hdp hoo h0 (Or.inr hsec)
        refine j_iconst jb dX12_pack_50 ?_
        refine j_goto (tgt := 55) jb dX12_pack_51 (by decide) ?_
        refine j_istore_n (lv' := [(1, .int (iI 2)), (0, .ref n0)]) jb dX12_pack_55 rfl (by decide) rfl ?_
        refine j_iconst jb dX12_pack_56 ?_
        refine j_istore_n (lv' := [(2, .int (iI 0)), (1, .int (iI 2)), (0, .ref n0)]) jb dX12_pack_57 rfl (by decide) rfl ?_
        refine j_ldc2 (z := 1000000000) jb q_X12_115 rfl dX12_pack_58 ?_
        refine j_lstore_n (lv' := [(3, .long (lI 1000000000)), (2, .int (iI 0)), (1, .int (iI 2)), (0, .ref n0)]) jb dX12_pack_61 rfl (by decide) rfl ?_
        refine j_iconst jb dX12_pack_62 ?_
        refine j_istore (lv' := [(5, .int (iI 0)), (3, .long (lI 1000000000)), (2, .int (iI 0)), (1, .int (iI 2)), (0, .ref n0)]) jb dX12_pack_63 (by decide) rfl ?_
        have L65 : ∀ (fu : Nat) (tn best t vn1 wd1 wa1 bp1 pk1 px1 : Int) (v1 rs1 U1 : Int → Int), (0 ≤ t ∧ (ch = 1 → t ≤ 1) ∧ (ch = 2 → t ≤ 4) ∧ (0 ≤ best ∧ best ≤ 1000000000) ∧ (0 ≤ tn ∧ tn ≤ 3) ∧ tInv (fT ch (bbF ss (fun i => ss (400 + i)) (cn 0) dp mo ms oc)) t best tn) → (4 - t).toNat < fu → JW x 0 0 65 [(0, .ref n0), (1, .int (iI 2)), (2, .int (iI tn)), (3, .long (lI best)), (5, .int (iI t))] [] [(n0, oX12 0 dp my sm st sz mo ms yb hpk pkr rt rk rx hsh si gt va vn1 wd1 wa1 re ua pk1 px1 bp1 mk bi pl cd rn rch rtn rdp rki rea rby rsh), (my, aI x.g 2 cn), (sm, aI x.g 800 ss), (st, aI x.g 2400 B), (yb, aI x.g 4 oc), (pkr, aI x.g 5 pp), (rt, aI x.g 8 tt), (rk, aI x.g 32 kk), (rx, aI x.g 32 xk), (va, aI x.g 400 v1), (re, aL x.g 400 rs1), (ua, aL x.g 400 U1), (mk, aI x.g 4000 M)] := by
          intro fu
          induction fu with
          | zero => intro tn best t vn1 wd1 wa1 bp1 pk1 px1 v1 rs1 U1 _ hm; exact absurd hm (by omega)
          | succ fu ih =>
            intro tn best t vn1 wd1 wa1 bp1 pk1 px1 v1 rs1 U1 ⟨hi1, hi2, hi3, hi4, hi5, hi6⟩ hm65
            have ih65 := ih
            clear ih
            refine j_iload jb dX12_pack_65 4 rfl ?_
            refine j_iload_n jb dX12_pack_67 1 rfl ?_
            refine j_iconst jb dX12_pack_68 ?_
            refine j_icmp_ne (tgt := 76) jb dX12_pack_69 (by decide) (by decide) (by decide) (fun h => absurd h (by decide)) (fun _ => ?_)
            refine j_iconst jb dX12_pack_72 ?_
            refine j_goto (tgt := 77) jb dX12_pack_73 (by decide) ?_
            refine j_icmp_ge (tgt := 138) jb dX12_pack_77 (by decide) (by omega) (by omega) (fun c_77 => ?_) (fun c_77 => ?_)
            · skip
              have hTt := tInv_tot (show (ch = 1 ∧ t = 1) ∨ (ch = 2 ∧ t = 4) by omega) hi6 hfo
              refine j_bipush jb dX12_pack_138 (by decide) ?_
              refine j_lload_n jb dX12_pack_140 3 rfl ?_
              refine j_l2i jb dX12_pack_141 ?_
              refine j_iadd jb dX12_pack_142 ?_
              refine j_bipush jb dX12_pack_143 (by decide) ?_
              refine j_iadd jb dX12_pack_145 ?_
              refine j_bipush jb dX12_pack_146 (by decide) ?_
              refine j_idiv jb dX12_pack_148 (by omega) ?_
              refine j_iconst jb dX12_pack_149 ?_
              refine j_iadd jb dX12_pack_150 ?_
              refine j_geni (fun nbt e_nbt => ?_)
              refine j_istore (lv' := [(5, .int (iI nbt)), (0, .ref n0), (1, .int (iI 2)), (2, .int (iI tn)), (3, .long (lI best))]) jb dX12_pack_151 (by decide) rfl ?_
              refine j_aload_n jb dX12_pack_153 1 rfl ?_
              refine j_get jb f_X12_69 dX12_pack_154 0 rfl rfl ?_
              refine j_iload jb dX12_pack_157 0 rfl ?_
              refine j_iadd jb dX12_pack_159 ?_
              refine j_sipush jb dX12_pack_160 (by decide) ?_
              refine j_icmp_le (tgt := 169) jb dX12_pack_163 (by decide) (by omega) (by omega) (fun c_163 => ?_) (fun c_163 => ?_)
              · skip
                refine j_aload_n jb dX12_pack_169 1 rfl ?_
                refine j_iconst jb dX12_pack_170 ?_
                refine j_put (ws' := [(n0, oX12 0 dp my sm st sz mo ms yb hpk pkr rt rk rx hsh si gt va vn1 wd1 wa1 re ua pk1 px1 bp1 mk 0 pl cd rn rch rtn rdp rki rea rby rsh), (my, aI x.g 2 cn), (sm, aI x.g 800 ss), (st, aI x.g 2400 B), (yb, aI x.g 4 oc), (pkr, aI x.g 5 pp), (rt, aI x.g 8 tt), (rk, aI x.g 32 kk), (rx, aI x.g 32 xk), (va, aI x.g 400 v1), (re, aL x.g 400 rs1), (ua, aL x.g 400 U1), (mk, aI x.g 4000 M)]) jb f_X12_163 w_X12_27 rfl dX12_pack_171 0 rfl rfl rfl (Nat.le_of_ble_eq_true rfl) rfl ?_
                refine j_aload_n jb dX12_pack_174 1 rfl ?_
                refine j_aload_n jb dX12_pack_175 1 rfl ?_
                refine j_get jb f_X12_16 dX12_pack_176 0 rfl rfl ?_
                refine j_iconst jb dX12_pack_179 ?_
                refine j_iald jb dX12_pack_180 1 rfl (by omega) (by decide) ?_
                refine j_iconst jb dX12_pack_181 ?_
                refine j_isub jb dX12_pack_182 ?_
                refine j_i2l jb dX12_pack_183 (by omega) ?_
                refine j_bipush jb dX12_pack_184 (by decide) ?_
                refine j_callV (wr := [(my, aI x.g 2 cn), (sm, aI x.g 800 ss), (st, aI x.g 2400 B), (yb, aI x.g 4 oc), (pkr, aI x.g 5 pp), (rt, aI x.g 8 tt), (rk, aI x.g 32 kk), (rx, aI x.g 32 xk), (va, aI x.g 400 v1), (re, aL x.g 400 rs1), (ua, aL x.g 400 U1)]) jb k_X12_put i_X12_put s_X12_put l_X12_166 (C_X12_put x.l x.g n0 my sm st yb pkr rt rk rx si gt va re ua mk rki rea rby 0 dp sz mo ms hpk hsh vn1 wd1 wa1 pk1 px1 bp1 0 pl cd rn rch rtn rdp rsh ((cn 0) - 1) 9 M (by omega) (by decide) (by omega) hM (fun z => absurd (by decide) z)) 0 14 rfl rfl rfl [0, 12] [1, 2, 3, 4, 5, 6, 7, 8, 9, 10, 11] (by decide) rfl rfl (by decide) (by decide) rfl rfl (Nat.le_of_ble_eq_true rfl) (by decide) dX12_pack_186 (fun v w hp => ?_)
                obtain ⟨b186, M186, rfl, rfl, h186⟩ := hp
                refine j_norm (lv' := [(5, .int (iI nbt)), (0, .ref n0), (1, .int (iI 2)), (2, .int (iI tn)), (3, .long (lI best))]) (st' := []) (ws' := [(n0, oX12 0 dp my sm st sz mo ms yb hpk pkr rt rk rx hsh si gt va vn1 wd1 wa1 re ua pk1 px1 bp1 mk b186 pl cd rn rch rtn rdp rki rea rby rsh), (my, aI x.g 2 cn), (sm, aI x.g 800 ss), (st, aI x.g 2400 B), (yb, aI x.g 4 oc), (pkr, aI x.g 5 pp), (rt, aI x.g 8 tt), (rk, aI x.g 32 kk), (rx, aI x.g 32 xk), (va, aI x.g 400 v1), (re, aL x.g 400 rs1), (ua, aL x.g 400 U1), (mk, aI x.g 4000 M186)]) [0, 1, 2, 3, 4] [11, 0, 1, 2, 3, 4, 5, 6, 7, 8, 9, 10, 12] rfl rfl (by decide) rfl ?_
                refine j_aload_n jb dX12_pack_189 1 rfl ?_
                refine j_iload_n jb dX12_pack_190 2 rfl ?_
                refine j_iconst jb dX12_pack_191 ?_
                refine j_isub jb dX12_pack_192 ?_
                refine j_i2l jb dX12_pack_193 (by omega) ?_
                refine j_iconst jb dX12_pack_194 ?_
                refine j_callV (wr := [(my, aI x.g 2 cn), (sm, aI x.g 800 ss), (st, aI x.g 2400 B), (yb, aI x.g 4 oc), (pkr, aI x.g 5 pp), (rt, aI x.g 8 tt), (rk, aI x.g 32 kk), (rx, aI x.g 32 xk), (va, aI x.g 400 v1), (re, aL x.g 400 rs1), (ua, aL x.g 400 U1)]) jb k_X12_put i_X12_put s_X12_put l_X12_166 (C_X12_put x.l x.g n0 my sm st yb pkr rt rk rx si gt va re ua mk rki rea rby 0 dp sz mo ms hpk hsh vn1 wd1 wa1 pk1 px1 bp1 b186 pl cd rn rch rtn rdp rsh (2 - 1) 1 M186 (by omega) (by decide) (by omega) h186.2.1.1 h186.2.2) 0 14 rfl rfl rfl [0, 12] [1, 2, 3, 4, 5, 6, 7, 8, 9, 10, 11] (by decide) rfl rfl (by decide) (by decide) rfl rfl (Nat.le_of_ble_eq_true rfl) (by decide) dX12_pack_195 (fun v w hp => ?_)
                obtain ⟨b195, M195, rfl, rfl, h195⟩ := hp
                refine j_norm (lv' := [(5, .int (iI nbt)), (0, .ref n0), (1, .int (iI 2)), (2, .int (iI tn)), (3, .long (lI best))]) (st' := []) (ws' := [(n0, oX12 0 dp my sm st sz mo ms yb hpk pkr rt rk rx hsh si gt va vn1 wd1 wa1 re ua pk1 px1 bp1 mk b195 pl cd rn rch rtn rdp rki rea rby rsh), (my, aI x.g 2 cn), (sm, aI x.g 800 ss), (st, aI x.g 2400 B), (yb, aI x.g 4 oc), (pkr, aI x.g 5 pp), (rt, aI x.g 8 tt), (rk, aI x.g 32 kk), (rx, aI x.g 32 xk), (va, aI x.g 400 v1), (re, aL x.g 400 rs1), (ua, aL x.g 400 U1), (mk, aI x.g 4000 M195)]) [0, 1, 2, 3, 4] [11, 0, 1, 2, 3, 4, 5, 6, 7, 8, 9, 10, 12] rfl rfl (by decide) rfl ?_
                refine j_aload_n jb dX12_pack_198 1 rfl ?_
                refine j_iload_n jb dX12_pack_199 3 rfl ?_
                refine j_i2l jb dX12_pack_200 (by omega) ?_
                refine j_iconst jb dX12_pack_201 ?_
                refine j_callV (wr := [(my, aI x.g 2 cn), (sm, aI x.g 800 ss), (st, aI x.g 2400 B), (yb, aI x.g 4 oc), (pkr, aI x.g 5 pp), (rt, aI x.g 8 tt), (rk, aI x.g 32 kk), (rx, aI x.g 32 xk), (va, aI x.g 400 v1), (re, aL x.g 400 rs1), (ua, aL x.g 400 U1)]) jb k_X12_put i_X12_put s_X12_put l_X12_166 (C_X12_put x.l x.g n0 my sm st yb pkr rt rk rx si gt va re ua mk rki rea rby 0 dp sz mo ms hpk hsh vn1 wd1 wa1 pk1 px1 bp1 b195 pl cd rn rch rtn rdp rsh tn 2 M195 (by omega) (by decide) (by omega) h195.2.1.1 h195.2.2) 0 14 rfl rfl rfl [0, 12] [1, 2, 3, 4, 5, 6, 7, 8, 9, 10, 11] (by decide) rfl rfl (by decide) (by decide) rfl rfl (Nat.le_of_ble_eq_true rfl) (by decide) dX12_pack_202 (fun v w hp => ?_)
                obtain ⟨b202, M202, rfl, rfl, h202⟩ := hp
                refine j_norm (lv' := [(5, .int (iI nbt)), (0, .ref n0), (1, .int (iI 2)), (2, .int (iI tn)), (3, .long (lI best))]) (st' := []) (ws' := [(n0, oX12 0 dp my sm st sz mo ms yb hpk pkr rt rk rx hsh si gt va vn1 wd1 wa1 re ua pk1 px1 bp1 mk b202 pl cd rn rch rtn rdp rki rea rby rsh), (my, aI x.g 2 cn), (sm, aI x.g 800 ss), (st, aI x.g 2400 B), (yb, aI x.g 4 oc), (pkr, aI x.g 5 pp), (rt, aI x.g 8 tt), (rk, aI x.g 32 kk), (rx, aI x.g 32 xk), (va, aI x.g 400 v1), (re, aL x.g 400 rs1), (ua, aL x.g 400 U1), (mk, aI x.g 4000 M202)]) [0, 1, 2, 3, 4] [11, 0, 1, 2, 3, 4, 5, 6, 7, 8, 9, 10, 12] rfl rfl (by decide) rfl ?_
                refine j_aload_n jb dX12_pack_205 1 rfl ?_
                refine j_aload_n jb dX12_pack_206 1 rfl ?_
                refine j_get jb f_X12_13 dX12_pack_207 0 rfl rfl ?_
                refine j_iconst jb dX12_pack_210 ?_
                refine j_isub jb dX12_pack_211 ?_
                refine j_i2l jb dX12_pack_212 (by omega) ?_
                refine j_iconst jb dX12_pack_213 ?_
                refine j_callV (wr := [(my, aI x.g 2 cn), (sm, aI x.g 800 ss), (st, aI x.g 2400 B), (yb, aI x.g 4 oc), (pkr, aI x.g 5 pp), (rt, aI x.g 8 tt), (rk, aI x.g 32 kk), (rx, aI x.g 32 xk), (va, aI x.g 400 v1), (re, aL x.g 400 rs1), (ua, aL x.g 400 U1)]) jb k_X12_put i_X12_put s_X12_put l_X12_166 (C_X12_put x.l x.g n0 my sm st yb pkr rt rk rx si gt va re ua mk rki rea rby 0 dp sz mo ms hpk hsh vn1 wd1 wa1 pk1 px1 bp1 b202 pl cd rn rch rtn rdp rsh (dp - 1) 4 M202 (by omega) (by decide) (by omega) h202.2.1.1 h202.2.2) 0 14 rfl rfl rfl [0, 12] [1, 2, 3, 4, 5, 6, 7, 8, 9, 10, 11] (by decide) rfl rfl (by decide) (by decide) rfl rfl (Nat.le_of_ble_eq_true rfl) (by decide) dX12_pack_214 (fun v w hp => ?_)
                obtain ⟨b214, M214, rfl, rfl, h214⟩ := hp
                refine j_norm (lv' := [(5, .int (iI nbt)), (0, .ref n0), (1, .int (iI 2)), (2, .int (iI tn)), (3, .long (lI best))]) (st' := []) (ws' := [(n0, oX12 0 dp my sm st sz mo ms yb hpk pkr rt rk rx hsh si gt va vn1 wd1 wa1 re ua pk1 px1 bp1 mk b214 pl cd rn rch rtn rdp rki rea rby rsh), (my, aI x.g 2 cn), (sm, aI x.g 800 ss), (st, aI x.g 2400 B), (yb, aI x.g 4 oc), (pkr, aI x.g 5 pp), (rt, aI x.g 8 tt), (rk, aI x.g 32 kk), (rx, aI x.g 32 xk), (va, aI x.g 400 v1), (re, aL x.g 400 rs1), (ua, aL x.g 400 U1), (mk, aI x.g 4000 M214)]) [0, 1, 2, 3, 4] [11, 0, 1, 2, 3, 4, 5, 6, 7, 8, 9, 10, 12] rfl rfl (by decide) rfl ?_
                have hhd : wrote 4000 M 0 (hdB (cn 0) ch tn dp) M214 := by (rw [hch]; exact wrote_app (wrote_app (wrote_app h186.2.1 h195.2.1 (by decide) (by rw [nb_len]; omega)) h202.2.1 (by decide) (by rw [List.length_append, nb_len, nb_len]; omega)) h214.2.1 (by decide) (by rw [List.length_append, List.length_append, nb_len, nb_len, nb_len]; omega))
                have hhl := hdB_len (cn 0) ch tn dp
                have hTb : 16 + best = 16 + (bbF ss (fun i => ss (400 + i)) (cn 0) dp mo ms oc) (zT tn 0) + (bbF ss (fun i => ss (400 + i)) (cn 0) dp mo ms oc) (zT tn 1) := by (have z := hTt.2.2.1; rw [fT_2 tn hch] at z; omega)
                have hbi0 := bb_in (os := ms) (oc := oc) hn1 hdp hoo (hfo (zT tn 0) (Or.inr hch))
                have hbi1 := bb_in (os := ms) (oc := oc) hn1 hdp hoo (hfo (zT tn 1) (Or.inr hch))
                refine j_iconst jb dX12_pack_217 ?_
                refine j_istore (lv' := [(6, .int (iI 0)), (5, .int (iI nbt)), (0, .ref n0), (1, .int (iI 2)), (2, .int (iI tn)), (3, .long (lI best))]) jb dX12_pack_218 (by decide) rfl ?_
                refine j_iload jb dX12_pack_220 0 rfl ?_
                refine j_iload_n jb dX12_pack_222 3 rfl ?_
                refine j_icmp_ge (tgt := 249) jb dX12_pack_223 (by decide) (by decide) (by decide) (fun h => absurd h (by decide)) (fun _ => ?_)
                refine j_aload_n jb dX12_pack_226 2 rfl ?_
                refine j_iload_n jb dX12_pack_227 4 rfl ?_
                refine j_iload jb dX12_pack_228 0 rfl ?_
                refine j_callV (wr := [(st, aI x.g 2400 B), (yb, aI x.g 4 oc), (pkr, aI x.g 5 pp), (rt, aI x.g 8 tt), (rk, aI x.g 32 kk), (rx, aI x.g 32 xk), (re, aL x.g 400 rs1), (ua, aL x.g 400 U1), (mk, aI x.g 4000 M214)]) jb k_X12_valuesOf i_X12_valuesOf s_X12_valuesOf l_X12_174 (C_X12_valuesOf x.l x.g n0 my sm st yb pkr rt rk rx si gt va re ua mk rki rea rby 0 dp sz mo ms hpk hsh vn1 wd1 wa1 pk1 px1 bp1 b214 pl cd rn rch rtn rdp rsh tn 0 cn ss v1 (by omega) (by decide) hn1 hdp h0 (Or.inr hsec)) 0 14 rfl rfl rfl [0, 1, 2, 9] [3, 4, 5, 6, 7, 8, 10, 11, 12] (by decide) rfl rfl (by decide) (by decide) rfl rfl (Nat.le_of_ble_eq_true rfl) (by decide) dX12_pack_230 (fun v w hp => ?_)
                obtain ⟨wa0d, wd0d, v0d, rfl, rfl, h2300⟩ := hp
                refine j_norm (lv' := [(6, .int (iI 0)), (5, .int (iI nbt)), (0, .ref n0), (1, .int (iI 2)), (2, .int (iI tn)), (3, .long (lI best))]) (st' := []) (ws' := [(n0, oX12 0 dp my sm st sz mo ms yb hpk pkr rt rk rx hsh si gt va (cn 0) wd0d wa0d re ua pk1 px1 bp1 mk b214 pl cd rn rch rtn rdp rki rea rby rsh), (my, aI x.g 2 cn), (sm, aI x.g 800 ss), (st, aI x.g 2400 B), (yb, aI x.g 4 oc), (pkr, aI x.g 5 pp), (rt, aI x.g 8 tt), (rk, aI x.g 32 kk), (rx, aI x.g 32 xk), (va, aI x.g 400 v0d), (re, aL x.g 400 rs1), (ua, aL x.g 400 U1), (mk, aI x.g 4000 M214)]) [0, 1, 2, 3, 4, 5] [9, 10, 11, 0, 1, 2, 3, 4, 5, 12, 6, 7, 8] rfl rfl (by decide) rfl ?_
                have hvh2300 : vOk v0d (cn 0) := vOk_strip (selR_in h0 (Or.inr hsec)) h2300.2.1.1 h2300.2.2.2
                have hwh2300 := rbJ_in (j := zT tn 0) hdp
                have hbh2300 := val_bb (os := ms) (oc := oc) (by omega) hoo.1 h2300.1 h2300.2.2.2 h2300.2.2.1
                refine j_aload_n jb dX12_pack_233 2 rfl ?_
                refine j_iload jb dX12_pack_234 0 rfl ?_
                refine j_aload_n jb dX12_pack_236 2 rfl ?_
                refine j_callV (wr := [(my, aI x.g 2 cn), (sm, aI x.g 800 ss), (st, aI x.g 2400 B), (pkr, aI x.g 5 pp), (rt, aI x.g 8 tt), (rk, aI x.g 32 kk), (rx, aI x.g 32 xk), (mk, aI x.g 4000 M214)]) jb k_X12_bestKind i_X12_bestKind s_X12_bestKind l_X12_177 (C_X12_bestKind x.l x.g n0 my sm st yb pkr rt rk rx si gt va re ua mk rki rea rby 0 dp sz mo ms hpk hsh (cn 0) wd0d wa0d pk1 px1 bp1 b214 pl cd rn rch rtn rdp rsh v0d oc rs1 U1 hn1 (by omega) hvh2300 (by omega) (by omega) hcf) 0 14 rfl rfl rfl [0, 9, 4, 10, 11] [1, 2, 3, 5, 6, 7, 8, 12] (by decide) rfl rfl (by decide) (by decide) rfl rfl (Nat.le_of_ble_eq_true rfl) (by decide) dX12_pack_237 (fun v w hp => ?_)
                obtain ⟨kd0d, bp0e, pk0e, px0e, rs0e, U0e, rfl, rfl, h2370⟩ := hp
                refine j_norm (lv' := [(6, .int (iI 0)), (5, .int (iI nbt)), (0, .ref n0), (1, .int (iI 2)), (2, .int (iI tn)), (3, .long (lI best))]) (st' := [.int (iI kd0d), .int (iI 0), .ref n0]) (ws' := [(n0, oX12 0 dp my sm st sz mo ms yb hpk pkr rt rk rx hsh si gt va (cn 0) wd0d wa0d re ua pk0e px0e bp0e mk b214 pl cd rn rch rtn rdp rki rea rby rsh), (my, aI x.g 2 cn), (sm, aI x.g 800 ss), (st, aI x.g 2400 B), (yb, aI x.g 4 oc), (pkr, aI x.g 5 pp), (rt, aI x.g 8 tt), (rk, aI x.g 32 kk), (rx, aI x.g 32 xk), (va, aI x.g 400 v0d), (re, aL x.g 400 rs0e), (ua, aL x.g 400 U0e), (mk, aI x.g 4000 M214)]) [0, 1, 2, 3, 4, 5] [8, 0, 1, 2, 10, 3, 4, 5, 6, 9, 11, 12, 7] rfl rfl (by decide) rfl ?_
                refine j_callV (wr := [(my, aI x.g 2 cn), (sm, aI x.g 800 ss), (st, aI x.g 2400 B), (pkr, aI x.g 5 pp)]) jb k_X12_putRow i_X12_putRow s_X12_putRow l_X12_181 (C_X12_putRow x.l x.g n0 my sm st yb pkr rt rk rx si gt va re ua mk rki rea rby 0 dp sz mo ms hpk hsh (cn 0) wd0d wa0d pk0e px0e bp0e b214 pl cd rn rch rtn rdp rsh 0 kd0d v0d oc rs0e U0e M214 tt kk xk hn1 (by omega) hvh2300 (by omega) (by omega) hcf (by omega) h2370.1 (by decide) (by omega) (by rw [hbh2300]; omega) hhd.1 h214.2.2) 0 14 rfl rfl rfl [0, 9, 4, 10, 11, 12, 6, 7, 8] [1, 2, 3, 5] (by decide) rfl rfl (by decide) (by decide) rfl rfl (Nat.le_of_ble_eq_true rfl) (by decide) dX12_pack_240 (fun v w hp => ?_)
                obtain ⟨bi0f, bp0f, pk0f, px0f, p0f, rs0f, U0f, M0f, tt0f, kk0f, xk0f, K0f, X0f, rfl, rfl, h2400⟩ := hp
                refine j_norm (lv' := [(6, .int (iI 0)), (5, .int (iI nbt)), (0, .ref n0), (1, .int (iI 2)), (2, .int (iI tn)), (3, .long (lI best))]) (st' := []) (ws' := [(n0, oX12 0 dp my sm st sz mo ms yb hpk pkr rt rk rx hsh si gt va (cn 0) wd0d wa0d re ua pk0f px0f bp0f mk bi0f pl cd rn rch rtn rdp rki rea rby rsh), (my, aI x.g 2 cn), (sm, aI x.g 800 ss), (st, aI x.g 2400 B), (yb, aI x.g 4 oc), (pkr, aI x.g 5 pp), (rt, aI x.g 8 tt0f), (rk, aI x.g 32 kk0f), (rx, aI x.g 32 xk0f), (va, aI x.g 400 v0d), (re, aL x.g 400 rs0f), (ua, aL x.g 400 U0f), (mk, aI x.g 4000 M0f)]) [0, 1, 2, 3, 4, 5] [4, 0, 1, 2, 6, 3, 10, 11, 12, 5, 7, 8, 9] rfl rfl (by decide) rfl ?_
                have hfv0 := form_val hn1 hoo h2300.1 h2300.2.1 h2300.2.2.2 h2300.2.2.1 h2400.1
                rw [hbh2300] at h2400 hfv0
                have hwl0 := h2400.2.2.1
                rw [hfv0.2] at hwl0
                have hll0 : ((rowBF (selR ss (fun i => ss (400 + i)) (zFirst tn.toNat)) (cn 0) (rbJ dp (zFirst tn.toNat)) mo ms oc kd0d wa0d p0f K0f X0f).length : Int) = (bbF ss (fun i => ss (400 + i)) (cn 0) dp mo ms oc) (zT tn 0) := rowB_len (w := wa0d) hn1 (show 0 ≤ rbJ dp (zT tn 0) - wa0d by omega) hoo hfv0.1.2.2
                refine j_iinc (lv' := [(6, .int (iI 1)), (5, .int (iI nbt)), (0, .ref n0), (1, .int (iI 2)), (2, .int (iI tn)), (3, .long (lI best))]) jb dX12_pack_243 0 rfl (by decide) rfl ?_
                refine j_goto (tgt := 220) jb dX12_pack_246 (by decide) ?_
                refine j_iload jb dX12_pack_220 0 rfl ?_
                refine j_iload_n jb dX12_pack_222 3 rfl ?_
                refine j_icmp_ge (tgt := 249) jb dX12_pack_223 (by decide) (by decide) (by decide) (fun h => absurd h (by decide)) (fun _ => ?_)
                refine j_aload_n jb dX12_pack_226 2 rfl ?_
                refine j_iload_n jb dX12_pack_227 4 rfl ?_
                refine j_iload jb dX12_pack_228 0 rfl ?_
                refine j_callV (wr := [(st, aI x.g 2400 B), (yb, aI x.g 4 oc), (pkr, aI x.g 5 pp), (rt, aI x.g 8 tt0f), (rk, aI x.g 32 kk0f), (rx, aI x.g 32 xk0f), (re, aL x.g 400 rs0f), (ua, aL x.g 400 U0f), (mk, aI x.g 4000 M0f)]) jb k_X12_valuesOf i_X12_valuesOf s_X12_valuesOf l_X12_174 (C_X12_valuesOf x.l x.g n0 my sm st yb pkr rt rk rx si gt va re ua mk rki rea rby 0 dp sz mo ms hpk hsh (cn 0) wd0d wa0d pk0f px0f bp0f bi0f pl cd rn rch rtn rdp rsh tn 1 cn ss v0d (by omega) (by decide) hn1 hdp h0 (Or.inr hsec)) 0 14 rfl rfl rfl [0, 1, 2, 9] [3, 4, 5, 6, 7, 8, 10, 11, 12] (by decide) rfl rfl (by decide) (by decide) rfl rfl (Nat.le_of_ble_eq_true rfl) (by decide) dX12_pack_230 (fun v w hp => ?_)
                obtain ⟨wa1d, wd1d, v1d, rfl, rfl, h2301⟩ := hp
                refine j_norm (lv' := [(6, .int (iI 1)), (5, .int (iI nbt)), (0, .ref n0), (1, .int (iI 2)), (2, .int (iI tn)), (3, .long (lI best))]) (st' := []) (ws' := [(n0, oX12 0 dp my sm st sz mo ms yb hpk pkr rt rk rx hsh si gt va (cn 0) wd1d wa1d re ua pk0f px0f bp0f mk bi0f pl cd rn rch rtn rdp rki rea rby rsh), (my, aI x.g 2 cn), (sm, aI x.g 800 ss), (st, aI x.g 2400 B), (yb, aI x.g 4 oc), (pkr, aI x.g 5 pp), (rt, aI x.g 8 tt0f), (rk, aI x.g 32 kk0f), (rx, aI x.g 32 xk0f), (va, aI x.g 400 v1d), (re, aL x.g 400 rs0f), (ua, aL x.g 400 U0f), (mk, aI x.g 4000 M0f)]) [0, 1, 2, 3, 4, 5] [9, 10, 11, 0, 1, 2, 3, 4, 5, 12, 6, 7, 8] rfl rfl (by decide) rfl ?_
                have hvh2301 : vOk v1d (cn 0) := vOk_strip (selR_in h0 (Or.inr hsec)) h2301.2.1.1 h2301.2.2.2
                have hwh2301 := rbJ_in (j := zT tn 1) hdp
                have hbh2301 := val_bb (os := ms) (oc := oc) (by omega) hoo.1 h2301.1 h2301.2.2.2 h2301.2.2.1
                refine j_aload_n jb dX12_pack_233 2 rfl ?_
                refine j_iload jb dX12_pack_234 0 rfl ?_
                refine j_aload_n jb dX12_pack_236 2 rfl ?_
                refine j_callV (wr := [(my, aI x.g 2 cn), (sm, aI x.g 800 ss), (st, aI x.g 2400 B), (pkr, aI x.g 5 pp), (rt, aI x.g 8 tt0f), (rk, aI x.g 32 kk0f), (rx, aI x.g 32 xk0f), (mk, aI x.g 4000 M0f)]) jb k_X12_bestKind i_X12_bestKind s_X12_bestKind l_X12_177 (C_X12_bestKind x.l x.g n0 my sm st yb pkr rt rk rx si gt va re ua mk rki rea rby 0 dp sz mo ms hpk hsh (cn 0) wd1d wa1d pk0f px0f bp0f bi0f pl cd rn rch rtn rdp rsh v1d oc rs0f U0f hn1 (by omega) hvh2301 (by omega) (by omega) hcf) 0 14 rfl rfl rfl [0, 9, 4, 10, 11] [1, 2, 3, 5, 6, 7, 8, 12] (by decide) rfl rfl (by decide) (by decide) rfl rfl (Nat.le_of_ble_eq_true rfl) (by decide) dX12_pack_237 (fun v w hp => ?_)
                obtain ⟨kd1d, bp1e, pk1e, px1e, rs1e, U1e, rfl, rfl, h2371⟩ := hp
                refine j_norm (lv' := [(6, .int (iI 1)), (5, .int (iI nbt)), (0, .ref n0), (1, .int (iI 2)), (2, .int (iI tn)), (3, .long (lI best))]) (st' := [.int (iI kd1d), .int (iI 1), .ref n0]) (ws' := [(n0, oX12 0 dp my sm st sz mo ms yb hpk pkr rt rk rx hsh si gt va (cn 0) wd1d wa1d re ua pk1e px1e bp1e mk bi0f pl cd rn rch rtn rdp rki rea rby rsh), (my, aI x.g 2 cn), (sm, aI x.g 800 ss), (st, aI x.g 2400 B), (yb, aI x.g 4 oc), (pkr, aI x.g 5 pp), (rt, aI x.g 8 tt0f), (rk, aI x.g 32 kk0f), (rx, aI x.g 32 xk0f), (va, aI x.g 400 v1d), (re, aL x.g 400 rs1e), (ua, aL x.g 400 U1e), (mk, aI x.g 4000 M0f)]) [0, 1, 2, 3, 4, 5] [8, 0, 1, 2, 10, 3, 4, 5, 6, 9, 11, 12, 7] rfl rfl (by decide) rfl ?_
                refine j_callV (wr := [(my, aI x.g 2 cn), (sm, aI x.g 800 ss), (st, aI x.g 2400 B), (pkr, aI x.g 5 pp)]) jb k_X12_putRow i_X12_putRow s_X12_putRow l_X12_181 (C_X12_putRow x.l x.g n0 my sm st yb pkr rt rk rx si gt va re ua mk rki rea rby 0 dp sz mo ms hpk hsh (cn 0) wd1d wa1d pk1e px1e bp1e bi0f pl cd rn rch rtn rdp rsh 1 kd1d v1d oc rs1e U1e M0f tt0f kk0f xk0f hn1 (by omega) hvh2301 (by omega) (by omega) hcf (by omega) h2371.1 (by decide) (by omega) (by rw [hbh2301]; omega) h2400.2.2.1.1 h2400.2.2.2.1) 0 14 rfl rfl rfl [0, 9, 4, 10, 11, 12, 6, 7, 8] [1, 2, 3, 5] (by decide) rfl rfl (by decide) (by decide) rfl rfl (Nat.le_of_ble_eq_true rfl) (by decide) dX12_pack_240 (fun v w hp => ?_)
                obtain ⟨bi1f, bp1f, pk1f, px1f, p1f, rs1f, U1f, M1f, tt1f, kk1f, xk1f, K1f, X1f, rfl, rfl, h2401⟩ := hp
                refine j_norm (lv' := [(6, .int (iI 1)), (5, .int (iI nbt)), (0, .ref n0), (1, .int (iI 2)), (2, .int (iI tn)), (3, .long (lI best))]) (st' := []) (ws' := [(n0, oX12 0 dp my sm st sz mo ms yb hpk pkr rt rk rx hsh si gt va (cn 0) wd1d wa1d re ua pk1f px1f bp1f mk bi1f pl cd rn rch rtn rdp rki rea rby rsh), (my, aI x.g 2 cn), (sm, aI x.g 800 ss), (st, aI x.g 2400 B), (yb, aI x.g 4 oc), (pkr, aI x.g 5 pp), (rt, aI x.g 8 tt1f), (rk, aI x.g 32 kk1f), (rx, aI x.g 32 xk1f), (va, aI x.g 400 v1d), (re, aL x.g 400 rs1f), (ua, aL x.g 400 U1f), (mk, aI x.g 4000 M1f)]) [0, 1, 2, 3, 4, 5] [4, 0, 1, 2, 6, 3, 10, 11, 12, 5, 7, 8, 9] rfl rfl (by decide) rfl ?_
                have hfv1 := form_val hn1 hoo h2301.1 h2301.2.1 h2301.2.2.2 h2301.2.2.1 h2401.1
                rw [hbh2301] at h2401 hfv1
                have hwl1 := h2401.2.2.1
                rw [hfv1.2] at hwl1
                have hll1 : ((rowBF (selR ss (fun i => ss (400 + i)) (zSecond tn.toNat)) (cn 0) (rbJ dp (zSecond tn.toNat)) mo ms oc kd1d wa1d p1f K1f X1f).length : Int) = (bbF ss (fun i => ss (400 + i)) (cn 0) dp mo ms oc) (zT tn 1) := rowB_len (w := wa1d) hn1 (show 0 ≤ rbJ dp (zT tn 1) - wa1d by omega) hoo hfv1.1.2.2
                refine j_iinc (lv' := [(6, .int (iI 2)), (5, .int (iI nbt)), (0, .ref n0), (1, .int (iI 2)), (2, .int (iI tn)), (3, .long (lI best))]) jb dX12_pack_243 0 rfl (by decide) rfl ?_
                refine j_goto (tgt := 220) jb dX12_pack_246 (by decide) ?_
                refine j_iload jb dX12_pack_220 0 rfl ?_
                refine j_iload_n jb dX12_pack_222 3 rfl ?_
                refine j_icmp_ge (tgt := 249) jb dX12_pack_223 (by decide) (by decide) (by decide) (fun _ => ?_) (fun h => absurd h (by decide))
                refine j_aload_n jb dX12_pack_249 2 rfl ?_
                refine j_iconst jb dX12_pack_250 ?_
                refine j_put (ws' := [(n0, oX12 0 dp my sm st sz mo ms yb 1 pkr rt rk rx hsh si gt va (cn 0) wd1d wa1d re ua pk1f px1f bp1f mk bi1f pl cd rn rch rtn rdp rki rea rby rsh), (my, aI x.g 2 cn), (sm, aI x.g 800 ss), (st, aI x.g 2400 B), (yb, aI x.g 4 oc), (pkr, aI x.g 5 pp), (rt, aI x.g 8 tt1f), (rk, aI x.g 32 kk1f), (rx, aI x.g 32 xk1f), (va, aI x.g 400 v1d), (re, aL x.g 400 rs1f), (ua, aL x.g 400 U1f), (mk, aI x.g 4000 M1f)]) jb f_X12_184 w_X12_9 rfl dX12_pack_251 0 rfl rfl rfl (Nat.le_of_ble_eq_true rfl) rfl ?_
                refine j_aload_n jb dX12_pack_254 2 rfl ?_
                refine j_get jb f_X12_29 dX12_pack_255 0 rfl rfl ?_
                refine j_iconst jb dX12_pack_258 ?_
                refine j_aload_n jb dX12_pack_259 2 rfl ?_
                refine j_get jb f_X12_16 dX12_pack_260 0 rfl rfl ?_
                refine j_iconst jb dX12_pack_263 ?_
                refine j_iald jb dX12_pack_264 1 rfl (by omega) (by decide) ?_
                refine j_iast (ws' := [(n0, oX12 0 dp my sm st sz mo ms yb 1 pkr rt rk rx hsh si gt va (cn 0) wd1d wa1d re ua pk1f px1f bp1f mk bi1f pl cd rn rch rtn rdp rki rea rby rsh), (my, aI x.g 2 cn), (sm, aI x.g 800 ss), (st, aI x.g 2400 B), (yb, aI x.g 4 oc), (pkr, aI x.g 5 (zup pp 0 (cn 0))), (rt, aI x.g 8 tt1f), (rk, aI x.g 32 kk1f), (rx, aI x.g 32 xk1f), (va, aI x.g 400 v1d), (re, aL x.g 400 rs1f), (ua, aL x.g 400 U1f), (mk, aI x.g 4000 M1f)]) jb dX12_pack_265 5 rfl (by omega) (by decide) rfl ?_
                refine j_aload_n jb dX12_pack_266 2 rfl ?_
                refine j_get jb f_X12_29 dX12_pack_267 0 rfl rfl ?_
                refine j_iconst jb dX12_pack_270 ?_
                refine j_iload_n jb dX12_pack_271 3 rfl ?_
                refine j_iast (ws' := [(n0, oX12 0 dp my sm st sz mo ms yb 1 pkr rt rk rx hsh si gt va (cn 0) wd1d wa1d re ua pk1f px1f bp1f mk bi1f pl cd rn rch rtn rdp rki rea rby rsh), (my, aI x.g 2 cn), (sm, aI x.g 800 ss), (st, aI x.g 2400 B), (yb, aI x.g 4 oc), (pkr, aI x.g 5 (zup (zup pp 0 (cn 0)) 1 2)), (rt, aI x.g 8 tt1f), (rk, aI x.g 32 kk1f), (rx, aI x.g 32 xk1f), (va, aI x.g 400 v1d), (re, aL x.g 400 rs1f), (ua, aL x.g 400 U1f), (mk, aI x.g 4000 M1f)]) jb dX12_pack_272 5 rfl (by omega) (by decide) rfl ?_
                refine j_aload_n jb dX12_pack_273 2 rfl ?_
                refine j_get jb f_X12_29 dX12_pack_274 0 rfl rfl ?_
                refine j_iconst jb dX12_pack_277 ?_
                refine j_iload_n jb dX12_pack_278 4 rfl ?_
                refine j_iast (ws' := [(n0, oX12 0 dp my sm st sz mo ms yb 1 pkr rt rk rx hsh si gt va (cn 0) wd1d wa1d re ua pk1f px1f bp1f mk bi1f pl cd rn rch rtn rdp rki rea rby rsh), (my, aI x.g 2 cn), (sm, aI x.g 800 ss), (st, aI x.g 2400 B), (yb, aI x.g 4 oc), (pkr, aI x.g 5 (zup (zup (zup pp 0 (cn 0)) 1 2) 2 tn)), (rt, aI x.g 8 tt1f), (rk, aI x.g 32 kk1f), (rx, aI x.g 32 xk1f), (va, aI x.g 400 v1d), (re, aL x.g 400 rs1f), (ua, aL x.g 400 U1f), (mk, aI x.g 4000 M1f)]) jb dX12_pack_279 5 rfl (by omega) (by decide) rfl ?_
                refine j_aload_n jb dX12_pack_280 2 rfl ?_
                refine j_get jb f_X12_29 dX12_pack_281 0 rfl rfl ?_
                refine j_iconst jb dX12_pack_284 ?_
                refine j_aload_n jb dX12_pack_285 2 rfl ?_
                refine j_get jb f_X12_163 dX12_pack_286 0 rfl rfl ?_
                refine j_iast (ws' := [(n0, oX12 0 dp my sm st sz mo ms yb 1 pkr rt rk rx hsh si gt va (cn 0) wd1d wa1d re ua pk1f px1f bp1f mk bi1f pl cd rn rch rtn rdp rki rea rby rsh), (my, aI x.g 2 cn), (sm, aI x.g 800 ss), (st, aI x.g 2400 B), (yb, aI x.g 4 oc), (pkr, aI x.g 5 (zup (zup (zup (zup pp 0 (cn 0)) 1 2) 2 tn) 3 bi1f)), (rt, aI x.g 8 tt1f), (rk, aI x.g 32 kk1f), (rx, aI x.g 32 xk1f), (va, aI x.g 400 v1d), (re, aL x.g 400 rs1f), (ua, aL x.g 400 U1f), (mk, aI x.g 4000 M1f)]) jb dX12_pack_289 5 rfl (by omega) (by decide) rfl ?_
                refine j_aload_n jb dX12_pack_290 2 rfl ?_
                refine j_get jb f_X12_29 dX12_pack_291 0 rfl rfl ?_
                refine j_iconst jb dX12_pack_294 ?_
                refine j_iload jb dX12_pack_295 1 rfl ?_
                refine j_iast (ws' := [(n0, oX12 0 dp my sm st sz mo ms yb 1 pkr rt rk rx hsh si gt va (cn 0) wd1d wa1d re ua pk1f px1f bp1f mk bi1f pl cd rn rch rtn rdp rki rea rby rsh), (my, aI x.g 2 cn), (sm, aI x.g 800 ss), (st, aI x.g 2400 B), (yb, aI x.g 4 oc), (pkr, aI x.g 5 (zup (zup (zup (zup (zup pp 0 (cn 0)) 1 2) 2 tn) 3 bi1f) 4 nbt)), (rt, aI x.g 8 tt1f), (rk, aI x.g 32 kk1f), (rx, aI x.g 32 xk1f), (va, aI x.g 400 v1d), (re, aL x.g 400 rs1f), (ua, aL x.g 400 U1f), (mk, aI x.g 4000 M1f)]) jb dX12_pack_297 5 rfl (by omega) (by decide) rfl ?_
                refine j_aload_n jb dX12_pack_298 2 rfl ?_
                refine j_get jb f_X12_57 dX12_pack_299 0 rfl rfl ?_
                refine j_iload jb dX12_pack_302 1 rfl ?_
                refine j_iconst jb dX12_pack_304 ?_
                refine j_isub jb dX12_pack_305 ?_
                refine j_aload_n jb dX12_pack_306 2 rfl ?_
                refine j_aload_n jb dX12_pack_307 2 rfl ?_
                refine j_get jb f_X12_57 dX12_pack_308 0 rfl rfl ?_
                refine j_iconst jb dX12_pack_311 ?_
                refine j_iload jb dX12_pack_312 1 rfl ?_
                refine j_iconst jb dX12_pack_314 ?_
                refine j_isub jb dX12_pack_315 ?_
                refine j_callV (wr := [(my, aI x.g 2 cn), (sm, aI x.g 800 ss), (st, aI x.g 2400 B), (yb, aI x.g 4 oc), (pkr, aI x.g 5 (zup (zup (zup (zup (zup pp 0 (cn 0)) 1 2) 2 tn) 3 bi1f) 4 nbt)), (rt, aI x.g 8 tt1f), (rk, aI x.g 32 kk1f), (rx, aI x.g 32 xk1f), (va, aI x.g 400 v1d), (re, aL x.g 400 rs1f), (ua, aL x.g 400 U1f)]) jb k_X12_sumOf i_X12_sumOf s_X12_sumOf l_X12_188 (C_X12_sumOf_m x.l x.g n0 my sm st yb pkr rt rk rx si gt va re ua mk rki rea rby 0 dp sz mo ms 1 hsh (cn 0) wd1d wa1d pk1f px1f bp1f bi1f pl cd rn rch rtn rdp rsh 0 (nbt - 1) M1f (by omega) h2401.2.2.1.1) 0 14 rfl rfl rfl [0, 12] [1, 2, 3, 4, 5, 6, 7, 8, 9, 10, 11] (by decide) rfl rfl (by decide) (by decide) rfl rfl (Nat.le_of_ble_eq_true rfl) (by decide) dX12_pack_316 (fun v w hp => ?_)
                obtain ⟨r316, rfl, rfl, h316⟩ := hp
                refine j_norm (lv' := [(6, .int (iI 2)), (5, .int (iI nbt)), (0, .ref n0), (1, .int (iI 2)), (2, .int (iI tn)), (3, .long (lI best))]) (st' := [.int (iI r316), .int (iI (nbt - 1)), .ref mk]) (ws' := [(n0, oX12 0 dp my sm st sz mo ms yb 1 pkr rt rk rx hsh si gt va (cn 0) wd1d wa1d re ua pk1f px1f bp1f mk bi1f pl cd rn rch rtn rdp rki rea rby rsh), (my, aI x.g 2 cn), (sm, aI x.g 800 ss), (st, aI x.g 2400 B), (yb, aI x.g 4 oc), (pkr, aI x.g 5 (zup (zup (zup (zup (zup pp 0 (cn 0)) 1 2) 2 tn) 3 bi1f) 4 nbt)), (rt, aI x.g 8 tt1f), (rk, aI x.g 32 kk1f), (rx, aI x.g 32 xk1f), (va, aI x.g 400 v1d), (re, aL x.g 400 rs1f), (ua, aL x.g 400 U1f), (mk, aI x.g 4000 M1f)]) [0, 1, 2, 3, 4, 5] [11, 0, 1, 2, 3, 4, 5, 6, 7, 8, 9, 10, 12] rfl rfl (by decide) rfl ?_
                refine j_iast (ws' := [(n0, oX12 0 dp my sm st sz mo ms yb 1 pkr rt rk rx hsh si gt va (cn 0) wd1d wa1d re ua pk1f px1f bp1f mk bi1f pl cd rn rch rtn rdp rki rea rby rsh), (my, aI x.g 2 cn), (sm, aI x.g 800 ss), (st, aI x.g 2400 B), (yb, aI x.g 4 oc), (pkr, aI x.g 5 (zup (zup (zup (zup (zup pp 0 (cn 0)) 1 2) 2 tn) 3 bi1f) 4 nbt)), (rt, aI x.g 8 tt1f), (rk, aI x.g 32 kk1f), (rx, aI x.g 32 xk1f), (va, aI x.g 400 v1d), (re, aL x.g 400 rs1f), (ua, aL x.g 400 U1f), (mk, aI x.g 4000 (zup M1f (nbt - 1) r316))]) jb dX12_pack_319 12 rfl (by omega) (by decide) rfl ?_
                refine j_aload_n jb dX12_pack_320 2 rfl ?_
                refine j_get jb f_X12_69 dX12_pack_321 0 rfl rfl ?_
                refine j_istore (lv' := [(6, .int (iI sz)), (5, .int (iI nbt)), (0, .ref n0), (1, .int (iI 2)), (2, .int (iI tn)), (3, .long (lI best))]) jb dX12_pack_324 (by decide) rfl ?_
                refine j_iconst jb dX12_pack_326 ?_
                refine j_istore (lv' := [(7, .int (iI 0)), (6, .int (iI sz)), (5, .int (iI nbt)), (0, .ref n0), (1, .int (iI 2)), (2, .int (iI tn)), (3, .long (lI best))]) jb dX12_pack_327 (by decide) rfl ?_
                have L329 : ∀ (fu : Nat) (i s1 : Int) (B1 : Int → Int), (0 ≤ i ∧ i ≤ nbt ∧ s1 = sz + i ∧ (∀ k, 0 ≤ k → k < i → B1 (sz + k) = zup M1f (nbt - 1) r316 k) ∧ (∀ j, (j < sz ∨ sz + i ≤ j) → B1 j = B j)) → (nbt - i).toNat < fu → JW x 0 0 329 [(0, .ref n0), (1, .int (iI 2)), (2, .int (iI tn)), (3, .long (lI best)), (5, .int (iI nbt)), (6, .int (iI sz)), (7, .int (iI i))] [] [(n0, oX12 0 dp my sm st s1 mo ms yb 1 pkr rt rk rx hsh si gt va (cn 0) wd1d wa1d re ua pk1f px1f bp1f mk bi1f pl cd rn rch rtn rdp rki rea rby rsh), (my, aI x.g 2 cn), (sm, aI x.g 800 ss), (st, aI x.g 2400 B1), (yb, aI x.g 4 oc), (pkr, aI x.g 5 (zup (zup (zup (zup (zup pp 0 (cn 0)) 1 2) 2 tn) 3 bi1f) 4 nbt)), (rt, aI x.g 8 tt1f), (rk, aI x.g 32 kk1f), (rx, aI x.g 32 xk1f), (va, aI x.g 400 v1d), (re, aL x.g 400 rs1f), (ua, aL x.g 400 U1f), (mk, aI x.g 4000 (zup M1f (nbt - 1) r316))] := by
                  intro fu
                  induction fu with
                  | zero => intro i s1 B1 _ hm; exact absurd hm (by omega)
                  | succ fu ih =>
                    intro i s1 B1 ⟨hk1, hk2, hk5, hk3, hk4⟩ hm329
                    have ih329 := ih
                    clear ih
                    refine j_iload jb dX12_pack_329 6 rfl ?_
                    refine j_iload jb dX12_pack_331 4 rfl ?_
                    refine j_icmp_ge (tgt := 368) jb dX12_pack_333 (by decide) (by omega) (by omega) (fun c_333 => ?_) (fun c_333 => ?_)
                    · skip
                      refine j_iload jb dX12_pack_368 5 rfl ?_
                      refine j_norm (lv' := []) (st' := [.int (iI sz)]) (ws' := [(n0, oX12 0 dp my sm st s1 mo ms yb 1 pkr rt rk rx hsh si gt va (cn 0) wd1d wa1d re ua pk1f px1f bp1f mk bi1f pl cd rn rch rtn rdp rki rea rby rsh), (my, aI x.g 2 cn), (sm, aI x.g 800 ss), (st, aI x.g 2400 B1), (yb, aI x.g 4 oc), (pkr, aI x.g 5 (zup (zup (zup (zup (zup pp 0 (cn 0)) 1 2) 2 tn) 3 bi1f) 4 nbt)), (rt, aI x.g 8 tt1f), (rk, aI x.g 32 kk1f), (rx, aI x.g 32 xk1f), (va, aI x.g 400 v1d), (re, aL x.g 400 rs1f), (ua, aL x.g 400 U1f), (mk, aI x.g 4000 (zup M1f (nbt - 1) r316))]) [] [0, 1, 2, 3, 4, 5, 6, 7, 8, 9, 10, 11, 12] rfl rfl (by decide) rfl ?_
                      exact j_iret jb jr dX12_pack_370 (by have hwp : wrote 4000 M 0 (pkL ss (fun i => ss (400 + i)) (cn 0) ch dp mo ms oc tn kd0d wa0d p0f K0f X0f kd1d wa1d p1f K1f X1f) M1f := (by unfold pkL; rw [if_pos hch]; exact wrote_app (wrote_app hhd hwl0 (by decide) (by omega)) hwl1 (by decide) (by rw [List.length_append]; omega)); have hln : 16 + best = ((pkL ss (fun i => ss (400 + i)) (cn 0) ch dp mo ms oc tn kd0d wa0d p0f K0f X0f kd1d wa1d p1f K1f X1f)).length := (by unfold pkL; rw [if_pos hch, List.length_append, List.length_append]; omega); have hfc := frame_copy (T := 16 + best) (nbt := nbt) hl.1 hB hwp hln (by rw [show 16 + best = bi1f by omega]; exact h2401.2.2.2.1) (by omega) (by omega) (fun k a b => by rw [hk3 k a (by omega), h316.1, show nbt - 1 - 0 = nbt - 1 by omega]) (fun j a => hk4 j (Or.inl a)) (fun j a => hk4 j (Or.inr (by omega))); exact ⟨_, _, _, _, _, _, _, _, _, _, ch, tn, 16 + best, kd0d, wa0d, (bbF ss (fun i => ss (400 + i)) (cn 0) dp mo ms oc) (zT tn 0), p0f, kd1d, wa1d, (bbF ss (fun i => ss (400 + i)) (cn 0) dp mo ms oc) (zT tn 1), p1f, _, _, _, _, _, _, _, _, _, K0f, X0f, K1f, X1f, rfl, rfl, (fun j a b => by (by_cases e : j = nbt - 1); { rw [e, zup_s]; exact h316.2 }; { rw [zup_n e]; exact hwp.1 j a b }), Or.inr (Or.inr ⟨hno, rfl, rfl, hch.trans (by rw [if_neg hc1]), ⟨by rw [zup_n (by decide), zup_n (by decide), zup_n (by decide), zup_n (by decide), zup_s], by rw [zup_n (by decide), zup_n (by decide), zup_n (by decide), zup_s]; exact hch.symm, by rw [zup_n (by decide), zup_n (by decide), zup_s], by rw [zup_n (by decide), zup_s]; omega, by rw [zup_s]; omega⟩, (by rw [if_neg hc1, ← hch]; exact hTt.1), by omega, by omega, by omega, by omega, hfv0.1, (fun _ => hfv1.1), hfc.1, hfc.2, ⟨(h2401.2.2.2.2.2.2.2.2.2.1 0 (by omega)).trans h2400.2.2.2.2.1, (h2401.2.2.2.2.2.2.2.2.2.1 1 (by omega)).trans h2400.2.2.2.2.2.1, (h2401.2.2.2.2.2.2.2.2.2.1 2 (by omega)).trans h2400.2.2.2.2.2.2.1, (h2401.2.2.2.2.2.2.2.2.2.1 3 (by omega)).trans h2400.2.2.2.2.2.2.2.1⟩, (fun j a b => by have z := h2400.2.2.2.2.2.2.2.2.1 j a b; rw [show 16 * 0 + j = j by omega] at z; have y := h2401.2.2.2.2.2.2.2.2.2.2 j (by have := cparts_in (form_p hfv0.1); omega); rw [y.1, y.2]; exact z), (fun _ => ⟨⟨h2401.2.2.2.2.1, h2401.2.2.2.2.2.1, h2401.2.2.2.2.2.2.1, h2401.2.2.2.2.2.2.2.1⟩, fun j a b => h2401.2.2.2.2.2.2.2.2.1 j a b⟩), (fun z => absurd hch z)⟩)⟩)
                    · skip
                      refine j_aload_n jb dX12_pack_336 0 rfl ?_
                      refine j_get jb f_X12_23 dX12_pack_337 0 rfl rfl ?_
                      refine j_aload_n jb dX12_pack_340 0 rfl ?_
                      refine j_get jb f_X12_69 dX12_pack_341 0 rfl rfl ?_
                      refine j_aload_n jb dX12_pack_344 0 rfl ?_
                      refine j_get jb f_X12_57 dX12_pack_345 0 rfl rfl ?_
                      refine j_iload jb dX12_pack_348 6 rfl ?_
                      refine j_iald jb dX12_pack_350 12 rfl (by omega) (by decide) ?_
                      refine j_iast (ws' := [(n0, oX12 0 dp my sm st s1 mo ms yb 1 pkr rt rk rx hsh si gt va (cn 0) wd1d wa1d re ua pk1f px1f bp1f mk bi1f pl cd rn rch rtn rdp rki rea rby rsh), (my, aI x.g 2 cn), (sm, aI x.g 800 ss), (st, aI x.g 2400 (zup B1 s1 ((zup M1f (nbt - 1) r316) i))), (yb, aI x.g 4 oc), (pkr, aI x.g 5 (zup (zup (zup (zup (zup pp 0 (cn 0)) 1 2) 2 tn) 3 bi1f) 4 nbt)), (rt, aI x.g 8 tt1f), (rk, aI x.g 32 kk1f), (rx, aI x.g 32 xk1f), (va, aI x.g 400 v1d), (re, aL x.g 400 rs1f), (ua, aL x.g 400 U1f), (mk, aI x.g 4000 (zup M1f (nbt - 1) r316))]) jb dX12_pack_351 3 rfl (by omega) (by decide) rfl ?_
                      refine j_aload_n jb dX12_pack_352 0 rfl ?_
                      refine j_dup jb dX12_pack_353 rfl ?_
                      refine j_get jb f_X12_69 dX12_pack_354 0 rfl rfl ?_
                      refine j_iconst jb dX12_pack_357 ?_
                      refine j_iadd jb dX12_pack_358 ?_
                      refine j_put (ws' := [(n0, oX12 0 dp my sm st (s1 + 1) mo ms yb 1 pkr rt rk rx hsh si gt va (cn 0) wd1d wa1d re ua pk1f px1f bp1f mk bi1f pl cd rn rch rtn rdp rki rea rby rsh), (my, aI x.g 2 cn), (sm, aI x.g 800 ss), (st, aI x.g 2400 (zup B1 s1 ((zup M1f (nbt - 1) r316) i))), (yb, aI x.g 4 oc), (pkr, aI x.g 5 (zup (zup (zup (zup (zup pp 0 (cn 0)) 1 2) 2 tn) 3 bi1f) 4 nbt)), (rt, aI x.g 8 tt1f), (rk, aI x.g 32 kk1f), (rx, aI x.g 32 xk1f), (va, aI x.g 400 v1d), (re, aL x.g 400 rs1f), (ua, aL x.g 400 U1f), (mk, aI x.g 4000 (zup M1f (nbt - 1) r316))]) jb f_X12_69 w_X12_5 rfl dX12_pack_359 0 rfl rfl rfl (Nat.le_of_ble_eq_true rfl) rfl ?_
                      refine j_iinc (lv' := [(7, .int (iI (i + 1))), (0, .ref n0), (1, .int (iI 2)), (2, .int (iI tn)), (3, .long (lI best)), (5, .int (iI nbt)), (6, .int (iI sz))]) jb dX12_pack_362 6 rfl (by decide) rfl ?_
                      refine j_goto (tgt := 329) jb dX12_pack_365 (by decide) ?_
                      refine j_norm (lv' := [(0, .ref n0), (1, .int (iI 2)), (2, .int (iI tn)), (3, .long (lI best)), (5, .int (iI nbt)), (6, .int (iI sz)), (7, .int (iI (i + 1)))]) (st' := []) (ws' := [(n0, oX12 0 dp my sm st (s1 + 1) mo ms yb 1 pkr rt rk rx hsh si gt va (cn 0) wd1d wa1d re ua pk1f px1f bp1f mk bi1f pl cd rn rch rtn rdp rki rea rby rsh), (my, aI x.g 2 cn), (sm, aI x.g 800 ss), (st, aI x.g 2400 (zup B1 s1 ((zup M1f (nbt - 1) r316) i))), (yb, aI x.g 4 oc), (pkr, aI x.g 5 (zup (zup (zup (zup (zup pp 0 (cn 0)) 1 2) 2 tn) 3 bi1f) 4 nbt)), (rt, aI x.g 8 tt1f), (rk, aI x.g 32 kk1f), (rx, aI x.g 32 xk1f), (va, aI x.g 400 v1d), (re, aL x.g 400 rs1f), (ua, aL x.g 400 U1f), (mk, aI x.g 4000 (zup M1f (nbt - 1) r316))]) [1, 2, 3, 4, 5, 6, 0] [0, 1, 2, 3, 4, 5, 6, 7, 8, 9, 10, 11, 12] rfl rfl (by decide) rfl ?_
                      exact ih329 (i + 1) (s1 + 1) (zup B1 s1 ((zup M1f (nbt - 1) r316) i)) ⟨by omega, by omega, by omega, fun k a b => by (by_cases e : k = i); { rw [e, show sz + i = s1 by omega, zup_s] }; { rw [zup_n (by omega)]; exact hk3 k a (by omega) }, fun j a => by rw [zup_n (by omega)]; exact hk4 j (by omega)⟩ (by omega)
                refine j_norm (lv' := [(0, .ref n0), (1, .int (iI 2)), (2, .int (iI tn)), (3, .long (lI best)), (5, .int (iI nbt)), (6, .int (iI sz)), (7, .int (iI 0))]) (st' := []) (ws' := [(n0, oX12 0 dp my sm st sz mo ms yb 1 pkr rt rk rx hsh si gt va (cn 0) wd1d wa1d re ua pk1f px1f bp1f mk bi1f pl cd rn rch rtn rdp rki rea rby rsh), (my, aI x.g 2 cn), (sm, aI x.g 800 ss), (st, aI x.g 2400 B), (yb, aI x.g 4 oc), (pkr, aI x.g 5 (zup (zup (zup (zup (zup pp 0 (cn 0)) 1 2) 2 tn) 3 bi1f) 4 nbt)), (rt, aI x.g 8 tt1f), (rk, aI x.g 32 kk1f), (rx, aI x.g 32 xk1f), (va, aI x.g 400 v1d), (re, aL x.g 400 rs1f), (ua, aL x.g 400 U1f), (mk, aI x.g 4000 (zup M1f (nbt - 1) r316))]) [3, 4, 5, 6, 2, 1, 0] [0, 1, 2, 3, 4, 5, 6, 7, 8, 9, 10, 11, 12] rfl rfl (by decide) rfl ?_
                exact L329 _ 0 sz B ⟨by decide, by omega, by omega, fun k a b => by omega, fun _ _ => rfl⟩ (Nat.lt_succ_self _)
              · skip
                refine j_bipush jb dX12_pack_166 (by decide) ?_
                refine j_norm (lv' := []) (st' := [.int (iI (-4))]) (ws' := [(n0, oX12 0 dp my sm st sz mo ms yb hpk pkr rt rk rx hsh si gt va vn1 wd1 wa1 re ua pk1 px1 bp1 mk bi pl cd rn rch rtn rdp rki rea rby rsh), (my, aI x.g 2 cn), (sm, aI x.g 800 ss), (st, aI x.g 2400 B), (yb, aI x.g 4 oc), (pkr, aI x.g 5 pp), (rt, aI x.g 8 tt), (rk, aI x.g 32 kk), (rx, aI x.g 32 xk), (va, aI x.g 400 v1), (re, aL x.g 400 rs1), (ua, aL x.g 400 U1), (mk, aI x.g 4000 M)]) [] [0, 1, 2, 3, 4, 5, 6, 7, 8, 9, 10, 11, 12] rfl rfl (by decide) rfl ?_
                exact j_iret jb jr dX12_pack_168 (by first | exact ⟨_, _, _, _, _, _, _, _, _, _, 0, 0, 0, 0, 0, 0, 0, 0, 0, 0, 0, _, _, _, _, _, _, _, _, _, z0, z0, z0, z0, rfl, rfl, hM, Or.inr (Or.inl ⟨hno, ⟨_, _, by rw [if_pos hc1, ← hch]; exact hTt.1, by omega⟩, rfl, rfl, rfl, rfl, rfl, rfl, rfl, rfl⟩)⟩ | exact ⟨_, _, _, _, _, _, _, _, _, _, 0, 0, 0, 0, 0, 0, 0, 0, 0, 0, 0, _, _, _, _, _, _, _, _, _, z0, z0, z0, z0, rfl, rfl, hM, Or.inr (Or.inl ⟨hno, ⟨_, _, by rw [if_neg hc1, ← hch]; exact hTt.1, by omega⟩, rfl, rfl, rfl, rfl, rfl, rfl, rfl, rfl⟩)⟩)
            · skip
              refine j_lconst (z := 0) jb dX12_pack_80 rfl ?_
              refine j_lstore (lv' := [(6, .long (lI 0)), (0, .ref n0), (1, .int (iI 2)), (2, .int (iI tn)), (3, .long (lI best)), (5, .int (iI t))]) jb dX12_pack_81 (by decide) rfl ?_
              refine j_iconst jb dX12_pack_83 ?_
              refine j_istore (lv' := [(8, .int (iI 0)), (6, .long (lI 0)), (0, .ref n0), (1, .int (iI 2)), (2, .int (iI tn)), (3, .long (lI best)), (5, .int (iI t))]) jb dX12_pack_84 (by decide) rfl ?_
              refine j_iload jb dX12_pack_86 0 rfl ?_
              refine j_iload_n jb dX12_pack_88 3 rfl ?_
              refine j_icmp_ge (tgt := 119) jb dX12_pack_89 (by decide) (by decide) (by decide) (fun h => absurd h (by decide)) (fun _ => ?_)
              refine j_aload_n jb dX12_pack_92 2 rfl ?_
              refine j_iload jb dX12_pack_93 6 rfl ?_
              refine j_iload jb dX12_pack_95 0 rfl ?_
              refine j_callV (wr := [(st, aI x.g 2400 B), (yb, aI x.g 4 oc), (pkr, aI x.g 5 pp), (rt, aI x.g 8 tt), (rk, aI x.g 32 kk), (rx, aI x.g 32 xk), (re, aL x.g 400 rs1), (ua, aL x.g 400 U1), (mk, aI x.g 4000 M)]) jb k_X12_valuesOf i_X12_valuesOf s_X12_valuesOf l_X12_174 (C_X12_valuesOf x.l x.g n0 my sm st yb pkr rt rk rx si gt va re ua mk rki rea rby 0 dp sz mo ms hpk hsh vn1 wd1 wa1 pk1 px1 bp1 bi pl cd rn rch rtn rdp rsh t 0 cn ss v1 (by omega) (by decide) hn1 hdp h0 (Or.inr hsec)) 0 14 rfl rfl rfl [0, 1, 2, 9] [3, 4, 5, 6, 7, 8, 10, 11, 12] (by decide) rfl rfl (by decide) (by decide) rfl rfl (Nat.le_of_ble_eq_true rfl) (by decide) dX12_pack_97 (fun v w hp => ?_)
              obtain ⟨wa0a, wd0a, v0a, rfl, rfl, h970⟩ := hp
              refine j_norm (lv' := [(8, .int (iI 0)), (6, .long (lI 0)), (0, .ref n0), (1, .int (iI 2)), (2, .int (iI tn)), (3, .long (lI best)), (5, .int (iI t))]) (st' := []) (ws' := [(n0, oX12 0 dp my sm st sz mo ms yb hpk pkr rt rk rx hsh si gt va (cn 0) wd0a wa0a re ua pk1 px1 bp1 mk bi pl cd rn rch rtn rdp rki rea rby rsh), (my, aI x.g 2 cn), (sm, aI x.g 800 ss), (st, aI x.g 2400 B), (yb, aI x.g 4 oc), (pkr, aI x.g 5 pp), (rt, aI x.g 8 tt), (rk, aI x.g 32 kk), (rx, aI x.g 32 xk), (va, aI x.g 400 v0a), (re, aL x.g 400 rs1), (ua, aL x.g 400 U1), (mk, aI x.g 4000 M)]) [0, 1, 2, 3, 4, 5, 6] [9, 10, 11, 0, 1, 2, 3, 4, 5, 12, 6, 7, 8] rfl rfl (by decide) rfl ?_
              have hvh970 : vOk v0a (cn 0) := vOk_strip (selR_in h0 (Or.inr hsec)) h970.2.1.1 h970.2.2.2
              have hwh970 := rbJ_in (j := zT t 0) hdp
              have hbh970 := val_bb (os := ms) (oc := oc) (by omega) hoo.1 h970.1 h970.2.2.2 h970.2.2.1
              refine j_lload jb dX12_pack_100 1 rfl ?_
              refine j_aload_n jb dX12_pack_102 2 rfl ?_
              refine j_aload_n jb dX12_pack_103 2 rfl ?_
              refine j_callV (wr := [(my, aI x.g 2 cn), (sm, aI x.g 800 ss), (st, aI x.g 2400 B), (pkr, aI x.g 5 pp), (rt, aI x.g 8 tt), (rk, aI x.g 32 kk), (rx, aI x.g 32 xk), (mk, aI x.g 4000 M)]) jb k_X12_bestKind i_X12_bestKind s_X12_bestKind l_X12_177 (C_X12_bestKind x.l x.g n0 my sm st yb pkr rt rk rx si gt va re ua mk rki rea rby 0 dp sz mo ms hpk hsh (cn 0) wd0a wa0a pk1 px1 bp1 bi pl cd rn rch rtn rdp rsh v0a oc rs1 U1 hn1 (by omega) hvh970 (by omega) (by omega) hcf) 0 14 rfl rfl rfl [0, 9, 4, 10, 11] [1, 2, 3, 5, 6, 7, 8, 12] (by decide) rfl rfl (by decide) (by decide) rfl rfl (Nat.le_of_ble_eq_true rfl) (by decide) dX12_pack_104 (fun v w hp => ?_)
              obtain ⟨kd0a, bp0b, pk0b, px0b, rs0b, U0b, rfl, rfl, h1040⟩ := hp
              refine j_norm (lv' := [(8, .int (iI 0)), (6, .long (lI 0)), (0, .ref n0), (1, .int (iI 2)), (2, .int (iI tn)), (3, .long (lI best)), (5, .int (iI t))]) (st' := [.int (iI kd0a), .ref n0, .long (lI 0)]) (ws' := [(n0, oX12 0 dp my sm st sz mo ms yb hpk pkr rt rk rx hsh si gt va (cn 0) wd0a wa0a re ua pk0b px0b bp0b mk bi pl cd rn rch rtn rdp rki rea rby rsh), (my, aI x.g 2 cn), (sm, aI x.g 800 ss), (st, aI x.g 2400 B), (yb, aI x.g 4 oc), (pkr, aI x.g 5 pp), (rt, aI x.g 8 tt), (rk, aI x.g 32 kk), (rx, aI x.g 32 xk), (va, aI x.g 400 v0a), (re, aL x.g 400 rs0b), (ua, aL x.g 400 U0b), (mk, aI x.g 4000 M)]) [0, 1, 2, 3, 4, 5, 6] [8, 0, 1, 2, 10, 3, 4, 5, 6, 9, 11, 12, 7] rfl rfl (by decide) rfl ?_
              refine j_callV (wr := [(my, aI x.g 2 cn), (sm, aI x.g 800 ss), (st, aI x.g 2400 B), (pkr, aI x.g 5 pp), (rt, aI x.g 8 tt), (rk, aI x.g 32 kk), (rx, aI x.g 32 xk), (mk, aI x.g 4000 M)]) jb k_X12_bitsOf i_X12_bitsOf s_X12_bitsOf l_X12_156 (C_X12_bitsOf x.l x.g n0 my sm st yb pkr rt rk rx si gt va re ua mk rki rea rby 0 dp sz mo ms hpk hsh (cn 0) wd0a wa0a pk0b px0b bp0b bi pl cd rn rch rtn rdp rsh kd0a v0a oc rs0b U0b hn1 (by omega) hvh970 (by omega) (by omega) hcf (by omega)) 0 14 rfl rfl rfl [0, 9, 4, 10, 11] [1, 2, 3, 5, 6, 7, 8, 12] (by decide) rfl rfl (by decide) (by decide) rfl rfl (Nat.le_of_ble_eq_true rfl) (by decide) dX12_pack_107 (fun v w hp => ?_)
              obtain ⟨rb0a, bp0c, pk0c, px0c, rs0c, U0c, rfl, rfl, h1070⟩ := hp
              refine j_norm (lv' := [(8, .int (iI 0)), (6, .long (lI 0)), (0, .ref n0), (1, .int (iI 2)), (2, .int (iI tn)), (3, .long (lI best)), (5, .int (iI t))]) (st' := [.long (lI rb0a), .long (lI 0)]) (ws' := [(n0, oX12 0 dp my sm st sz mo ms yb hpk pkr rt rk rx hsh si gt va (cn 0) wd0a wa0a re ua pk0c px0c bp0c mk bi pl cd rn rch rtn rdp rki rea rby rsh), (my, aI x.g 2 cn), (sm, aI x.g 800 ss), (st, aI x.g 2400 B), (yb, aI x.g 4 oc), (pkr, aI x.g 5 pp), (rt, aI x.g 8 tt), (rk, aI x.g 32 kk), (rx, aI x.g 32 xk), (va, aI x.g 400 v0a), (re, aL x.g 400 rs0c), (ua, aL x.g 400 U0c), (mk, aI x.g 4000 M)]) [0, 1, 2, 3, 4, 5, 6] [8, 0, 1, 2, 10, 3, 4, 5, 6, 9, 11, 12, 7] rfl rfl (by decide) rfl ?_
              have hr0 := bits_bb (os := ms) (oc := oc) hn1 (by omega) hoo h1040.1 h1070.1
              rw [hbh970] at hr0
              refine j_ladd jb dX12_pack_110 ?_
              refine j_lstore (lv' := [(6, .long (lI (0 + rb0a))), (8, .int (iI 0)), (0, .ref n0), (1, .int (iI 2)), (2, .int (iI tn)), (3, .long (lI best)), (5, .int (iI t))]) jb dX12_pack_111 (by decide) rfl ?_
              refine j_iinc (lv' := [(8, .int (iI 1)), (6, .long (lI (0 + rb0a))), (0, .ref n0), (1, .int (iI 2)), (2, .int (iI tn)), (3, .long (lI best)), (5, .int (iI t))]) jb dX12_pack_113 1 rfl (by decide) rfl ?_
              refine j_goto (tgt := 86) jb dX12_pack_116 (by decide) ?_
              refine j_iload jb dX12_pack_86 0 rfl ?_
              refine j_iload_n jb dX12_pack_88 3 rfl ?_
              refine j_icmp_ge (tgt := 119) jb dX12_pack_89 (by decide) (by decide) (by decide) (fun h => absurd h (by decide)) (fun _ => ?_)
              refine j_aload_n jb dX12_pack_92 2 rfl ?_
              refine j_iload jb dX12_pack_93 6 rfl ?_
              refine j_iload jb dX12_pack_95 0 rfl ?_
              refine j_callV (wr := [(st, aI x.g 2400 B), (yb, aI x.g 4 oc), (pkr, aI x.g 5 pp), (rt, aI x.g 8 tt), (rk, aI x.g 32 kk), (rx, aI x.g 32 xk), (re, aL x.g 400 rs0c), (ua, aL x.g 400 U0c), (mk, aI x.g 4000 M)]) jb k_X12_valuesOf i_X12_valuesOf s_X12_valuesOf l_X12_174 (C_X12_valuesOf x.l x.g n0 my sm st yb pkr rt rk rx si gt va re ua mk rki rea rby 0 dp sz mo ms hpk hsh (cn 0) wd0a wa0a pk0c px0c bp0c bi pl cd rn rch rtn rdp rsh t 1 cn ss v0a (by omega) (by decide) hn1 hdp h0 (Or.inr hsec)) 0 14 rfl rfl rfl [0, 1, 2, 9] [3, 4, 5, 6, 7, 8, 10, 11, 12] (by decide) rfl rfl (by decide) (by decide) rfl rfl (Nat.le_of_ble_eq_true rfl) (by decide) dX12_pack_97 (fun v w hp => ?_)
              obtain ⟨wa1a, wd1a, v1a, rfl, rfl, h971⟩ := hp
              refine j_norm (lv' := [(8, .int (iI 1)), (6, .long (lI (0 + rb0a))), (0, .ref n0), (1, .int (iI 2)), (2, .int (iI tn)), (3, .long (lI best)), (5, .int (iI t))]) (st' := []) (ws' := [(n0, oX12 0 dp my sm st sz mo ms yb hpk pkr rt rk rx hsh si gt va (cn 0) wd1a wa1a re ua pk0c px0c bp0c mk bi pl cd rn rch rtn rdp rki rea rby rsh), (my, aI x.g 2 cn), (sm, aI x.g 800 ss), (st, aI x.g 2400 B), (yb, aI x.g 4 oc), (pkr, aI x.g 5 pp), (rt, aI x.g 8 tt), (rk, aI x.g 32 kk), (rx, aI x.g 32 xk), (va, aI x.g 400 v1a), (re, aL x.g 400 rs0c), (ua, aL x.g 400 U0c), (mk, aI x.g 4000 M)]) [0, 1, 2, 3, 4, 5, 6] [9, 10, 11, 0, 1, 2, 3, 4, 5, 12, 6, 7, 8] rfl rfl (by decide) rfl ?_
              have hvh971 : vOk v1a (cn 0) := vOk_strip (selR_in h0 (Or.inr hsec)) h971.2.1.1 h971.2.2.2
              have hwh971 := rbJ_in (j := zT t 1) hdp
              have hbh971 := val_bb (os := ms) (oc := oc) (by omega) hoo.1 h971.1 h971.2.2.2 h971.2.2.1
              refine j_lload jb dX12_pack_100 1 rfl ?_
              refine j_aload_n jb dX12_pack_102 2 rfl ?_
              refine j_aload_n jb dX12_pack_103 2 rfl ?_
              refine j_callV (wr := [(my, aI x.g 2 cn), (sm, aI x.g 800 ss), (st, aI x.g 2400 B), (pkr, aI x.g 5 pp), (rt, aI x.g 8 tt), (rk, aI x.g 32 kk), (rx, aI x.g 32 xk), (mk, aI x.g 4000 M)]) jb k_X12_bestKind i_X12_bestKind s_X12_bestKind l_X12_177 (C_X12_bestKind x.l x.g n0 my sm st yb pkr rt rk rx si gt va re ua mk rki rea rby 0 dp sz mo ms hpk hsh (cn 0) wd1a wa1a pk0c px0c bp0c bi pl cd rn rch rtn rdp rsh v1a oc rs0c U0c hn1 (by omega) hvh971 (by omega) (by omega) hcf) 0 14 rfl rfl rfl [0, 9, 4, 10, 11] [1, 2, 3, 5, 6, 7, 8, 12] (by decide) rfl rfl (by decide) (by decide) rfl rfl (Nat.le_of_ble_eq_true rfl) (by decide) dX12_pack_104 (fun v w hp => ?_)
              obtain ⟨kd1a, bp1b, pk1b, px1b, rs1b, U1b, rfl, rfl, h1041⟩ := hp
              refine j_norm (lv' := [(8, .int (iI 1)), (6, .long (lI (0 + rb0a))), (0, .ref n0), (1, .int (iI 2)), (2, .int (iI tn)), (3, .long (lI best)), (5, .int (iI t))]) (st' := [.int (iI kd1a), .ref n0, .long (lI (0 + rb0a))]) (ws' := [(n0, oX12 0 dp my sm st sz mo ms yb hpk pkr rt rk rx hsh si gt va (cn 0) wd1a wa1a re ua pk1b px1b bp1b mk bi pl cd rn rch rtn rdp rki rea rby rsh), (my, aI x.g 2 cn), (sm, aI x.g 800 ss), (st, aI x.g 2400 B), (yb, aI x.g 4 oc), (pkr, aI x.g 5 pp), (rt, aI x.g 8 tt), (rk, aI x.g 32 kk), (rx, aI x.g 32 xk), (va, aI x.g 400 v1a), (re, aL x.g 400 rs1b), (ua, aL x.g 400 U1b), (mk, aI x.g 4000 M)]) [0, 1, 2, 3, 4, 5, 6] [8, 0, 1, 2, 10, 3, 4, 5, 6, 9, 11, 12, 7] rfl rfl (by decide) rfl ?_
              refine j_callV (wr := [(my, aI x.g 2 cn), (sm, aI x.g 800 ss), (st, aI x.g 2400 B), (pkr, aI x.g 5 pp), (rt, aI x.g 8 tt), (rk, aI x.g 32 kk), (rx, aI x.g 32 xk), (mk, aI x.g 4000 M)]) jb k_X12_bitsOf i_X12_bitsOf s_X12_bitsOf l_X12_156 (C_X12_bitsOf x.l x.g n0 my sm st yb pkr rt rk rx si gt va re ua mk rki rea rby 0 dp sz mo ms hpk hsh (cn 0) wd1a wa1a pk1b px1b bp1b bi pl cd rn rch rtn rdp rsh kd1a v1a oc rs1b U1b hn1 (by omega) hvh971 (by omega) (by omega) hcf (by omega)) 0 14 rfl rfl rfl [0, 9, 4, 10, 11] [1, 2, 3, 5, 6, 7, 8, 12] (by decide) rfl rfl (by decide) (by decide) rfl rfl (Nat.le_of_ble_eq_true rfl) (by decide) dX12_pack_107 (fun v w hp => ?_)
              obtain ⟨rb1a, bp1c, pk1c, px1c, rs1c, U1c, rfl, rfl, h1071⟩ := hp
              refine j_norm (lv' := [(8, .int (iI 1)), (6, .long (lI (0 + rb0a))), (0, .ref n0), (1, .int (iI 2)), (2, .int (iI tn)), (3, .long (lI best)), (5, .int (iI t))]) (st' := [.long (lI rb1a), .long (lI (0 + rb0a))]) (ws' := [(n0, oX12 0 dp my sm st sz mo ms yb hpk pkr rt rk rx hsh si gt va (cn 0) wd1a wa1a re ua pk1c px1c bp1c mk bi pl cd rn rch rtn rdp rki rea rby rsh), (my, aI x.g 2 cn), (sm, aI x.g 800 ss), (st, aI x.g 2400 B), (yb, aI x.g 4 oc), (pkr, aI x.g 5 pp), (rt, aI x.g 8 tt), (rk, aI x.g 32 kk), (rx, aI x.g 32 xk), (va, aI x.g 400 v1a), (re, aL x.g 400 rs1c), (ua, aL x.g 400 U1c), (mk, aI x.g 4000 M)]) [0, 1, 2, 3, 4, 5, 6] [8, 0, 1, 2, 10, 3, 4, 5, 6, 9, 11, 12, 7] rfl rfl (by decide) rfl ?_
              have hr1 := bits_bb (os := ms) (oc := oc) hn1 (by omega) hoo h1041.1 h1071.1
              rw [hbh971] at hr1
              have ha : 0 + rb0a + rb1a + 16 = fT ch (bbF ss (fun i => ss (400 + i)) (cn 0) dp mo ms oc) t.toNat := by (rw [fT_2 t hch]; omega)
              refine j_ladd jb dX12_pack_110 ?_
              refine j_lstore (lv' := [(6, .long (lI ((0 + rb0a) + rb1a))), (8, .int (iI 1)), (0, .ref n0), (1, .int (iI 2)), (2, .int (iI tn)), (3, .long (lI best)), (5, .int (iI t))]) jb dX12_pack_111 (by decide) rfl ?_
              refine j_iinc (lv' := [(8, .int (iI 2)), (6, .long (lI ((0 + rb0a) + rb1a))), (0, .ref n0), (1, .int (iI 2)), (2, .int (iI tn)), (3, .long (lI best)), (5, .int (iI t))]) jb dX12_pack_113 1 rfl (by decide) rfl ?_
              refine j_goto (tgt := 86) jb dX12_pack_116 (by decide) ?_
              refine j_iload jb dX12_pack_86 0 rfl ?_
              refine j_iload_n jb dX12_pack_88 3 rfl ?_
              refine j_icmp_ge (tgt := 119) jb dX12_pack_89 (by decide) (by decide) (by decide) (fun _ => ?_) (fun h => absurd h (by decide))
              refine j_lload jb dX12_pack_119 1 rfl ?_
              refine j_lload_n jb dX12_pack_121 5 rfl ?_
              refine j_lcmp_ge (tgt := 132) jb dX12_pack_122 dX12_pack_123 (by decide) (by omega) (by omega) (fun c_122 => ?_) (fun c_122 => ?_)
              · skip
                refine j_iinc (lv' := [(5, .int (iI (t + 1))), (8, .int (iI 2)), (6, .long (lI ((0 + rb0a) + rb1a))), (0, .ref n0), (1, .int (iI 2)), (2, .int (iI tn)), (3, .long (lI best))]) jb dX12_pack_132 6 rfl (by decide) rfl ?_
                refine j_goto (tgt := 65) jb dX12_pack_135 (by decide) ?_
                refine j_norm (lv' := [(0, .ref n0), (1, .int (iI 2)), (2, .int (iI tn)), (3, .long (lI best)), (5, .int (iI (t + 1)))]) (st' := []) (ws' := [(n0, oX12 0 dp my sm st sz mo ms yb hpk pkr rt rk rx hsh si gt va (cn 0) wd1a wa1a re ua pk1c px1c bp1c mk bi pl cd rn rch rtn rdp rki rea rby rsh), (my, aI x.g 2 cn), (sm, aI x.g 800 ss), (st, aI x.g 2400 B), (yb, aI x.g 4 oc), (pkr, aI x.g 5 pp), (rt, aI x.g 8 tt), (rk, aI x.g 32 kk), (rx, aI x.g 32 xk), (va, aI x.g 400 v1a), (re, aL x.g 400 rs1c), (ua, aL x.g 400 U1c), (mk, aI x.g 4000 M)]) [3, 4, 5, 6, 0] [0, 1, 2, 3, 4, 5, 6, 7, 8, 9, 10, 11, 12] rfl rfl (by decide) rfl ?_
                exact ih65 tn best (t + 1) (cn 0) wd1a wa1a bp1c pk1c px1c v1a rs1c U1c (by first | exact ⟨by omega, by omega, by omega, by omega, by omega, tInv_new hi1 hi6 ha (by omega)⟩ | exact ⟨by omega, by omega, by omega, by omega, by omega, tInv_old hi6 ha (by omega) (by omega)⟩) (by omega)
              · skip
                refine j_lload jb dX12_pack_126 1 rfl ?_
                refine j_lstore_n (lv' := [(3, .long (lI ((0 + rb0a) + rb1a))), (8, .int (iI 2)), (6, .long (lI ((0 + rb0a) + rb1a))), (0, .ref n0), (1, .int (iI 2)), (2, .int (iI tn)), (5, .int (iI t))]) jb dX12_pack_128 rfl (by decide) rfl ?_
                refine j_iload jb dX12_pack_129 6 rfl ?_
                refine j_istore_n (lv' := [(2, .int (iI t)), (3, .long (lI ((0 + rb0a) + rb1a))), (8, .int (iI 2)), (6, .long (lI ((0 + rb0a) + rb1a))), (0, .ref n0), (1, .int (iI 2)), (5, .int (iI t))]) jb dX12_pack_131 rfl (by decide) rfl ?_
                refine j_iinc (lv' := [(5, .int (iI (t + 1))), (2, .int (iI t)), (3, .long (lI ((0 + rb0a) + rb1a))), (8, .int (iI 2)), (6, .long (lI ((0 + rb0a) + rb1a))), (0, .ref n0), (1, .int (iI 2))]) jb dX12_pack_132 6 rfl (by decide) rfl ?_
                refine j_goto (tgt := 65) jb dX12_pack_135 (by decide) ?_
                refine j_norm (lv' := [(0, .ref n0), (1, .int (iI 2)), (2, .int (iI t)), (3, .long (lI ((0 + rb0a) + rb1a))), (5, .int (iI (t + 1)))]) (st' := []) (ws' := [(n0, oX12 0 dp my sm st sz mo ms yb hpk pkr rt rk rx hsh si gt va (cn 0) wd1a wa1a re ua pk1c px1c bp1c mk bi pl cd rn rch rtn rdp rki rea rby rsh), (my, aI x.g 2 cn), (sm, aI x.g 800 ss), (st, aI x.g 2400 B), (yb, aI x.g 4 oc), (pkr, aI x.g 5 pp), (rt, aI x.g 8 tt), (rk, aI x.g 32 kk), (rx, aI x.g 32 xk), (va, aI x.g 400 v1a), (re, aL x.g 400 rs1c), (ua, aL x.g 400 U1c), (mk, aI x.g 4000 M)]) [5, 6, 1, 2, 0] [0, 1, 2, 3, 4, 5, 6, 7, 8, 9, 10, 11, 12] rfl rfl (by decide) rfl ?_
                exact ih65 t ((0 + rb0a) + rb1a) (t + 1) (cn 0) wd1a wa1a bp1c pk1c px1c v1a rs1c U1c (by first | exact ⟨by omega, by omega, by omega, by omega, by omega, tInv_new hi1 hi6 ha (by omega)⟩ | exact ⟨by omega, by omega, by omega, by omega, by omega, tInv_old hi6 ha (by omega) (by omega)⟩) (by omega)
        refine j_norm (lv' := [(0, .ref n0), (1, .int (iI 2)), (2, .int (iI 0)), (3, .long (lI 1000000000)), (5, .int (iI 0))]) (st' := []) (ws' := [(n0, oX12 0 dp my sm st sz mo ms yb hpk pkr rt rk rx hsh si gt va vn wd wa re ua pkk pxx bp mk bi pl cd rn rch rtn rdp rki rea rby rsh), (my, aI x.g 2 cn), (sm, aI x.g 800 ss), (st, aI x.g 2400 B), (yb, aI x.g 4 oc), (pkr, aI x.g 5 pp), (rt, aI x.g 8 tt), (rk, aI x.g 32 kk), (rx, aI x.g 32 xk), (va, aI x.g 400 val), (re, aL x.g 400 rs), (ua, aL x.g 400 U), (mk, aI x.g 4000 M)]) [4, 3, 2, 1, 0] [0, 1, 2, 3, 4, 5, 6, 7, 8, 9, 10, 11, 12] rfl rfl (by decide) rfl ?_
        exact L65 _ 0 1000000000 0 vn wd wa bp pkk pxx val rs U ⟨by decide, fun _ => by decide, fun _ => by decide, by decide, by decide, Or.inl ⟨rfl, rfl, rfl⟩⟩ (Nat.lt_succ_self _)
    refine j_if_le (tgt := 41) jb dX12_pack_20 (by decide) (by omega) (fun c_20 => ?_) (fun c_20 => ?_)
    · skip
      refine j_norm (lv' := [(0, .ref n0)]) (st' := []) (ws' := [(n0, oX12 0 dp my sm st sz mo ms yb hpk pkr rt rk rx hsh si gt va vn wd wa re ua pkk pxx bp mk bi pl cd rn rch rtn rdp rki rea rby rsh), (my, aI x.g 2 cn), (sm, aI x.g 800 ss), (st, aI x.g 2400 B), (yb, aI x.g 4 oc), (pkr, aI x.g 5 pp), (rt, aI x.g 8 tt), (rk, aI x.g 32 kk), (rx, aI x.g 32 xk), (va, aI x.g 400 val), (re, aL x.g 400 rs), (ua, aL x.g 400 U), (mk, aI x.g 4000 M)]) [0] [0, 1, 2, 3, 4, 5, 6, 7, 8, 9, 10, 11, 12] rfl rfl (by decide) rfl ?_
      exact J41  (by omega)
    · skip
      refine j_aload_n jb dX12_pack_23 0 rfl ?_
      refine j_get jb f_X12_16 dX12_pack_24 0 rfl rfl ?_
      refine j_iconst jb dX12_pack_27 ?_
      refine j_iald jb dX12_pack_28 1 rfl (by omega) (by decide) ?_
      refine j_aload_n jb dX12_pack_29 0 rfl ?_
      refine j_get jb f_X12_16 dX12_pack_30 0 rfl rfl ?_
      refine j_iconst jb dX12_pack_33 ?_
      refine j_iald jb dX12_pack_34 1 rfl (by omega) (by decide) ?_
      refine j_icmp_eq (tgt := 41) jb dX12_pack_35 (by decide) (by omega) (by omega) (fun c_35 => ?_) (fun c_35 => ?_)
      · skip
        refine j_norm (lv' := [(0, .ref n0)]) (st' := []) (ws' := [(n0, oX12 0 dp my sm st sz mo ms yb hpk pkr rt rk rx hsh si gt va vn wd wa re ua pkk pxx bp mk bi pl cd rn rch rtn rdp rki rea rby rsh), (my, aI x.g 2 cn), (sm, aI x.g 800 ss), (st, aI x.g 2400 B), (yb, aI x.g 4 oc), (pkr, aI x.g 5 pp), (rt, aI x.g 8 tt), (rk, aI x.g 32 kk), (rx, aI x.g 32 xk), (va, aI x.g 400 val), (re, aL x.g 400 rs), (ua, aL x.g 400 U), (mk, aI x.g 4000 M)]) [0] [0, 1, 2, 3, 4, 5, 6, 7, 8, 9, 10, 11, 12] rfl rfl (by decide) rfl ?_
        exact J41  (by omega)
      · skip
        refine j_bipush jb dX12_pack_38 (by decide) ?_
        refine j_norm (lv' := []) (st' := [.int (iI (-3))]) (ws' := [(n0, oX12 0 dp my sm st sz mo ms yb hpk pkr rt rk rx hsh si gt va vn wd wa re ua pkk pxx bp mk bi pl cd rn rch rtn rdp rki rea rby rsh), (my, aI x.g 2 cn), (sm, aI x.g 800 ss), (st, aI x.g 2400 B), (yb, aI x.g 4 oc), (pkr, aI x.g 5 pp), (rt, aI x.g 8 tt), (rk, aI x.g 32 kk), (rx, aI x.g 32 xk), (va, aI x.g 400 val), (re, aL x.g 400 rs), (ua, aL x.g 400 U), (mk, aI x.g 4000 M)]) [] [0, 1, 2, 3, 4, 5, 6, 7, 8, 9, 10, 11, 12] rfl rfl (by decide) rfl ?_
        exact j_iret jb jr dX12_pack_40 ⟨_, _, _, _, _, _, _, _, _, _, 0, 0, 0, 0, 0, 0, 0, 0, 0, 0, 0, _, _, _, _, _, _, _, _, _, z0, z0, z0, z0, rfl, rfl, hM, Or.inl ⟨by omega, rfl, rfl, rfl, rfl, rfl, rfl, rfl, rfl⟩⟩

