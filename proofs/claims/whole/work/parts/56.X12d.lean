set_option maxHeartbeats 4000000 in
set_option maxRecDepth 100000 in
theorem C_X12_putRow (l : Launch) (g : GG) (n0 my sm st yb pkr rt rk rx si gt va re ua mk rki rea rby : Nat) (th dp sz mo ms hpk hsh vn wd wa pkk pxx bp bi pl cd rn rch rtn rdp rsh : Int) (q kind : Int) (val oc rs U M tt kk xk : Int → Int) (hn : 1 ≤ vn ∧ vn ≤ 400) (hwd : 1 ≤ wd ∧ wd ≤ 17) (hv9 : vOk val vn) (hoo : 0 ≤ mo ∧ mo ≤ 4) (hos : 0 ≤ ms ∧ ms ≤ 15) (hcf : cfOk oc) (hk : 0 ≤ kind ∧ kind ≤ 7) (hkd : kind = (bK (prF val vn wd mo ms oc) 7).2) (hq : 0 ≤ q ∧ q ≤ 1) (hwa : 0 ≤ wa ∧ wa ≤ 15) (hb : 0 ≤ bi ∧ bi + (bK (prF val vn wd mo ms oc) 7).1 ≤ 32000) (hM : ∀ j, 0 ≤ j → j < 4000 → 0 ≤ M j ∧ M j < 256) (ht : tl M bi) : Ctr l g yX12_putRow cX12_putRow 8 none 5 150 0 0 [.ref n0, .int (iI q), .int (iI kind)] [(n0, oX12 th dp my sm st sz mo ms yb hpk pkr rt rk rx hsh si gt va vn wd wa re ua pkk pxx bp mk bi pl cd rn rch rtn rdp rki rea rby rsh), (va, aI g 400 val), (yb, aI g 4 oc), (re, aL g 400 rs), (ua, aL g 400 U), (mk, aI g 4000 M), (rt, aI g 8 tt), (rk, aI g 32 kk), (rx, aI g 32 xk)] (fun vv ww => ∃ (bi2 bp2 pk2 px2 p0 : Int) (rs2 U2 M2 tt2 kk2 xk2 K0 X0 : Int → Int), vv = none ∧ ww = [(n0, oX12 th dp my sm st sz mo ms yb hpk pkr rt rk rx hsh si gt va vn wd wa re ua pk2 px2 bp2 mk bi2 pl cd rn rch rtn rdp rki rea rby rsh), (va, aI g 400 val), (yb, aI g 4 oc), (re, aL g 400 rs2), (ua, aL g 400 U2), (mk, aI g 4000 M2), (rt, aI g 8 tt2), (rk, aI g 32 kk2), (rx, aI g 32 xk2)] ∧ rowIs val vn wd mo ms oc kind (bK (prF val vn wd mo ms oc) 7).1 p0 K0 X0 ∧ bi2 = bi + (bK (prF val vn wd mo ms oc) 7).1 ∧ wrote 4000 M bi (rowB val vn wd wa mo ms oc kind p0 K0 X0) M2 ∧ tl M2 bi2 ∧ tt2 (4 * q) = kind ∧ tt2 (4 * q + 1) = wa ∧ tt2 (4 * q + 2) = (bK (prF val vn wd mo ms oc) 7).1 ∧ tt2 (4 * q + 3) = p0 ∧ (∀ j, 0 ≤ j → j < cparts p0 → kk2 (16 * q + j) = K0 j ∧ xk2 (16 * q + j) = X0 j) ∧ (∀ i, (i < 4 * q ∨ 4 * q + 4 ≤ i) → tt2 i = tt i) ∧ (∀ i, (i < 16 * q ∨ 16 * q + 16 ≤ i) → kk2 i = kk i ∧ xk2 i = xk i)) := by
  refine Ctr.of [(0, .ref n0), (1, .int (iI q)), (2, .int (iI kind))] (by decide) (Nat.le_of_ble_eq_true rfl) rfl ?_
  intro x hxl hxg jb jr hin
  subst hxl; subst hxg
  obtain ⟨p0, K0, X0, hrow⟩ := row_ex val (oc := oc) (b := wd) ms hn (by omega) hoo
  rw [← hkd] at hrow
  have hlen := rowB_len (w := wa) hn (by omega) hoo hrow
  have hpre : (rowB val vn wd wa mo ms oc kind p0 K0 X0) = nb kind 3 3 ++ nb wa 4 4 ++ bodyB val vn wd mo ms oc kind p0 K0 X0 := rfl
  have hl7 : (rowB val vn wd wa mo ms oc kind p0 K0 X0).length = 7 + (bodyB val vn wd mo ms oc kind p0 K0 X0).length := by (rw [hpre]; simp only [List.length_append, nb_len])
  have hne : ¬ (price val vn wd mo ms oc kind) = -1 := by (have z := (bK_price (prF val vn wd mo ms oc) 7).1; rw [← hkd] at z; have y : prF val vn wd mo ms oc kind.toNat = (price val vn wd mo ms oc kind) := (by show price val vn wd mo ms oc (kind.toNat : Int) = _; rw [show (kind.toNat : Int) = kind by omega]); rw [y] at z; rw [← z]; exact hrow.2.2.1)
  refine j_aload_n jb dX12_putRow_0 0 rfl ?_
  refine j_get jb f_X12_163 dX12_putRow_1 0 rfl rfl ?_
  refine j_istore_n (lv' := [(3, .int (iI bi)), (0, .ref n0), (1, .int (iI q)), (2, .int (iI kind))]) jb dX12_putRow_4 rfl (by decide) rfl ?_
  refine j_aload_n jb dX12_putRow_5 1 rfl ?_
  refine j_iload_n jb dX12_putRow_6 3 rfl ?_
  refine j_callV (wr := [(mk, aI x.g 4000 M), (rt, aI x.g 8 tt), (rk, aI x.g 32 kk), (rx, aI x.g 32 xk)]) jb k_X12_bitsOf i_X12_bitsOf s_X12_bitsOf l_X12_156 (C_X12_bitsOf x.l x.g n0 my sm st yb pkr rt rk rx si gt va re ua mk rki rea rby th dp sz mo ms hpk hsh vn wd wa pkk pxx bp bi pl cd rn rch rtn rdp rsh kind val oc rs U (by omega) (by omega) hv9 (by omega) (by omega) hcf (by omega)) 0 14 rfl rfl rfl [0, 1, 2, 3, 4] [5, 6, 7, 8] (by decide) rfl rfl (by decide) (by decide) rfl rfl (Nat.le_of_ble_eq_true rfl) (by decide) dX12_putRow_7 (fun v w hp => ?_)
  obtain ⟨r7, bp3, pk3, px3, rs3, U3, rfl, rfl, h7⟩ := hp
  refine j_norm (lv' := [(3, .int (iI bi)), (0, .ref n0), (1, .int (iI q)), (2, .int (iI kind))]) (st' := [.long (lI r7)]) (ws' := [(n0, oX12 th dp my sm st sz mo ms yb hpk pkr rt rk rx hsh si gt va vn wd wa re ua pk3 px3 bp3 mk bi pl cd rn rch rtn rdp rki rea rby rsh), (va, aI x.g 400 val), (yb, aI x.g 4 oc), (re, aL x.g 400 rs3), (ua, aL x.g 400 U3), (mk, aI x.g 4000 M), (rt, aI x.g 8 tt), (rk, aI x.g 32 kk), (rx, aI x.g 32 xk)]) [0, 1, 2, 3] [4, 5, 6, 7, 8, 0, 1, 2, 3] rfl rfl (by decide) rfl ?_
  refine j_lstore (lv' := [(4, .long (lI r7)), (3, .int (iI bi)), (0, .ref n0), (1, .int (iI q)), (2, .int (iI kind))]) jb dX12_putRow_10 (by decide) rfl ?_
  refine j_aload_n jb dX12_putRow_12 2 rfl ?_
  refine j_iload_n jb dX12_putRow_13 4 rfl ?_
  refine j_i2l jb dX12_putRow_14 (by omega) ?_
  refine j_iconst jb dX12_putRow_15 ?_
  refine j_callV (wr := [(va, aI x.g 400 val), (yb, aI x.g 4 oc), (re, aL x.g 400 rs3), (ua, aL x.g 400 U3), (rt, aI x.g 8 tt), (rk, aI x.g 32 kk), (rx, aI x.g 32 xk)]) jb k_X12_put i_X12_put s_X12_put l_X12_166 (C_X12_put x.l x.g n0 my sm st yb pkr rt rk rx si gt va re ua mk rki rea rby th dp sz mo ms hpk hsh vn wd wa pk3 px3 bp3 bi pl cd rn rch rtn rdp rsh kind 3 M (by omega) (by decide) (by omega) hM ht) 0 14 rfl rfl rfl [0, 5] [1, 2, 3, 4, 6, 7, 8] (by decide) rfl rfl (by decide) (by decide) rfl rfl (Nat.le_of_ble_eq_true rfl) (by decide) dX12_putRow_16 (fun v w hp => ?_)
  obtain ⟨b16, M16, rfl, rfl, h16⟩ := hp
  refine j_norm (lv' := [(4, .long (lI r7)), (3, .int (iI bi)), (0, .ref n0), (1, .int (iI q)), (2, .int (iI kind))]) (st' := []) (ws' := [(n0, oX12 th dp my sm st sz mo ms yb hpk pkr rt rk rx hsh si gt va vn wd wa re ua pk3 px3 bp3 mk b16 pl cd rn rch rtn rdp rki rea rby rsh), (va, aI x.g 400 val), (yb, aI x.g 4 oc), (re, aL x.g 400 rs3), (ua, aL x.g 400 U3), (mk, aI x.g 4000 M16), (rt, aI x.g 8 tt), (rk, aI x.g 32 kk), (rx, aI x.g 32 xk)]) [0, 1, 2, 3, 4] [7, 0, 1, 2, 3, 8, 4, 5, 6] rfl rfl (by decide) rfl ?_
  refine j_aload_n jb dX12_putRow_19 2 rfl ?_
  refine j_aload_n jb dX12_putRow_20 2 rfl ?_
  refine j_get jb f_X12_95 dX12_putRow_21 0 rfl rfl ?_
  refine j_i2l jb dX12_putRow_24 (by omega) ?_
  refine j_iconst jb dX12_putRow_25 ?_
  refine j_callV (wr := [(va, aI x.g 400 val), (yb, aI x.g 4 oc), (re, aL x.g 400 rs3), (ua, aL x.g 400 U3), (rt, aI x.g 8 tt), (rk, aI x.g 32 kk), (rx, aI x.g 32 xk)]) jb k_X12_put i_X12_put s_X12_put l_X12_166 (C_X12_put x.l x.g n0 my sm st yb pkr rt rk rx si gt va re ua mk rki rea rby th dp sz mo ms hpk hsh vn wd wa pk3 px3 bp3 b16 pl cd rn rch rtn rdp rsh wa 4 M16 (by omega) (by decide) (by omega) h16.2.1.1 h16.2.2) 0 14 rfl rfl rfl [0, 5] [1, 2, 3, 4, 6, 7, 8] (by decide) rfl rfl (by decide) (by decide) rfl rfl (Nat.le_of_ble_eq_true rfl) (by decide) dX12_putRow_26 (fun v w hp => ?_)
  obtain ⟨b26, M26, rfl, rfl, h26⟩ := hp
  refine j_norm (lv' := [(4, .long (lI r7)), (3, .int (iI bi)), (0, .ref n0), (1, .int (iI q)), (2, .int (iI kind))]) (st' := []) (ws' := [(n0, oX12 th dp my sm st sz mo ms yb hpk pkr rt rk rx hsh si gt va vn wd wa re ua pk3 px3 bp3 mk b26 pl cd rn rch rtn rdp rki rea rby rsh), (va, aI x.g 400 val), (yb, aI x.g 4 oc), (re, aL x.g 400 rs3), (ua, aL x.g 400 U3), (mk, aI x.g 4000 M26), (rt, aI x.g 8 tt), (rk, aI x.g 32 kk), (rx, aI x.g 32 xk)]) [0, 1, 2, 3, 4] [7, 0, 1, 2, 3, 8, 4, 5, 6] rfl rfl (by decide) rfl ?_
  have hw26 : wrote 4000 M bi (nb kind 3 3 ++ nb wa 4 4) M26 := wrote_app h16.2.1 h26.2.1 hb.1 (by rw [nb_len]; omega)
  refine j_aload_n jb dX12_putRow_29 2 rfl ?_
  refine j_get jb f_X12_32 dX12_putRow_30 0 rfl rfl ?_
  refine j_iconst jb dX12_putRow_33 ?_
  refine j_iload_n jb dX12_putRow_34 3 rfl ?_
  refine j_imul jb dX12_putRow_35 ?_
  refine j_iload_n jb dX12_putRow_36 4 rfl ?_
  refine j_iast (ws' := [(n0, oX12 th dp my sm st sz mo ms yb hpk pkr rt rk rx hsh si gt va vn wd wa re ua pk3 px3 bp3 mk b26 pl cd rn rch rtn rdp rki rea rby rsh), (va, aI x.g 400 val), (yb, aI x.g 4 oc), (re, aL x.g 400 rs3), (ua, aL x.g 400 U3), (mk, aI x.g 4000 M26), (rt, aI x.g 8 (zup tt (4 * q) kind)), (rk, aI x.g 32 kk), (rx, aI x.g 32 xk)]) jb dX12_putRow_37 6 rfl (by omega) (by decide) rfl ?_
  refine j_aload_n jb dX12_putRow_38 2 rfl ?_
  refine j_get jb f_X12_32 dX12_putRow_39 0 rfl rfl ?_
  refine j_iconst jb dX12_putRow_42 ?_
  refine j_iload_n jb dX12_putRow_43 3 rfl ?_
  refine j_imul jb dX12_putRow_44 ?_
  refine j_iconst jb dX12_putRow_45 ?_
  refine j_iadd jb dX12_putRow_46 ?_
  refine j_aload_n jb dX12_putRow_47 2 rfl ?_
  refine j_get jb f_X12_95 dX12_putRow_48 0 rfl rfl ?_
  refine j_iast (ws' := [(n0, oX12 th dp my sm st sz mo ms yb hpk pkr rt rk rx hsh si gt va vn wd wa re ua pk3 px3 bp3 mk b26 pl cd rn rch rtn rdp rki rea rby rsh), (va, aI x.g 400 val), (yb, aI x.g 4 oc), (re, aL x.g 400 rs3), (ua, aL x.g 400 U3), (mk, aI x.g 4000 M26), (rt, aI x.g 8 (zup (zup tt (4 * q) kind) ((4 * q) + 1) wa)), (rk, aI x.g 32 kk), (rx, aI x.g 32 xk)]) jb dX12_putRow_51 6 rfl (by omega) (by decide) rfl ?_
  refine j_aload_n jb dX12_putRow_52 2 rfl ?_
  refine j_get jb f_X12_32 dX12_putRow_53 0 rfl rfl ?_
  refine j_iconst jb dX12_putRow_56 ?_
  refine j_iload_n jb dX12_putRow_57 3 rfl ?_
  refine j_imul jb dX12_putRow_58 ?_
  refine j_iconst jb dX12_putRow_59 ?_
  refine j_iadd jb dX12_putRow_60 ?_
  refine j_iconst jb dX12_putRow_61 ?_
  refine j_iast (ws' := [(n0, oX12 th dp my sm st sz mo ms yb hpk pkr rt rk rx hsh si gt va vn wd wa re ua pk3 px3 bp3 mk b26 pl cd rn rch rtn rdp rki rea rby rsh), (va, aI x.g 400 val), (yb, aI x.g 4 oc), (re, aL x.g 400 rs3), (ua, aL x.g 400 U3), (mk, aI x.g 4000 M26), (rt, aI x.g 8 (zup (zup (zup tt (4 * q) kind) ((4 * q) + 1) wa) ((4 * q) + 3) (-1))), (rk, aI x.g 32 kk), (rx, aI x.g 32 xk)]) jb dX12_putRow_62 6 rfl (by omega) (by decide) rfl ?_
  refine j_iload_n jb dX12_putRow_63 4 rfl ?_
  refine j_iconst jb dX12_putRow_64 ?_
  have J215 : ∀ (q9 pk9 px9 : Int) (M9 t9 k9 x9 : Int → Int), (q9 = bi + (bK (prF val vn wd mo ms oc) 7).1 ∧ wrote 4000 M bi (rowB val vn wd wa mo ms oc kind p0 K0 X0) M9 ∧ tl M9 q9 ∧ t9 (4 * q) = kind ∧ t9 (4 * q + 1) = wa ∧ t9 (4 * q + 3) = p0 ∧ (∀ j, 0 ≤ j → j < cparts p0 → k9 (16 * q + j) = K0 j ∧ x9 (16 * q + j) = X0 j) ∧ (∀ i, (i < 4 * q ∨ 4 * q + 4 ≤ i) → t9 i = tt i) ∧ (∀ i, (i < 16 * q ∨ 16 * q + 16 ≤ i) → k9 i = kk i ∧ x9 i = xk i)) → JW x 0 0 215 [(0, .ref n0), (1, .int (iI q)), (2, .int (iI kind)), (3, .int (iI bi))] [] [(n0, oX12 th dp my sm st sz mo ms yb hpk pkr rt rk rx hsh si gt va vn wd wa re ua pk9 px9 bp3 mk q9 pl cd rn rch rtn rdp rki rea rby rsh), (va, aI x.g 400 val), (yb, aI x.g 4 oc), (re, aL x.g 400 rs3), (ua, aL x.g 400 U3), (mk, aI x.g 4000 M9), (rt, aI x.g 8 t9), (rk, aI x.g 32 k9), (rx, aI x.g 32 x9)] := by
    intro q9 pk9 px9 M9 t9 k9 x9 ⟨hz1, hz2, hz3, hz4, hz5, hz6, hz7, hz8, hz9⟩
    refine j_aload_n jb dX12_putRow_215 0 rfl ?_
    refine j_get jb f_X12_32 dX12_putRow_216 0 rfl rfl ?_
    refine j_iconst jb dX12_putRow_219 ?_
    refine j_iload_n jb dX12_putRow_220 1 rfl ?_
    refine j_imul jb dX12_putRow_221 ?_
    refine j_iconst jb dX12_putRow_222 ?_
    refine j_iadd jb dX12_putRow_223 ?_
    refine j_aload_n jb dX12_putRow_224 0 rfl ?_
    refine j_get jb f_X12_163 dX12_putRow_225 0 rfl rfl ?_
    refine j_iload_n jb dX12_putRow_228 3 rfl ?_
    refine j_isub jb dX12_putRow_229 ?_
    refine j_iast (ws' := [(n0, oX12 th dp my sm st sz mo ms yb hpk pkr rt rk rx hsh si gt va vn wd wa re ua pk9 px9 bp3 mk q9 pl cd rn rch rtn rdp rki rea rby rsh), (va, aI x.g 400 val), (yb, aI x.g 4 oc), (re, aL x.g 400 rs3), (ua, aL x.g 400 U3), (mk, aI x.g 4000 M9), (rt, aI x.g 8 (zup t9 ((4 * q) + 2) (q9 - bi))), (rk, aI x.g 32 k9), (rx, aI x.g 32 x9)]) jb dX12_putRow_230 6 rfl (by omega) (by decide) rfl ?_
    refine j_norm (lv' := []) (st' := []) (ws' := [(n0, oX12 th dp my sm st sz mo ms yb hpk pkr rt rk rx hsh si gt va vn wd wa re ua pk9 px9 bp3 mk q9 pl cd rn rch rtn rdp rki rea rby rsh), (va, aI x.g 400 val), (yb, aI x.g 4 oc), (re, aL x.g 400 rs3), (ua, aL x.g 400 U3), (mk, aI x.g 4000 M9), (rt, aI x.g 8 (zup t9 ((4 * q) + 2) (q9 - bi))), (rk, aI x.g 32 k9), (rx, aI x.g 32 x9)]) [] [0, 1, 2, 3, 4, 5, 6, 7, 8] rfl rfl (by decide) rfl ?_
    exact j_vret jb jr dX12_putRow_231 ⟨_, _, _, _, _, _, _, _, _, _, _, _, _, rfl, rfl, ⟨hrow, hz1, hz2, hz3, by rw [zup_n (by omega)]; exact hz4, by rw [zup_n (by omega)]; exact hz5, by rw [zup_s]; omega, by rw [zup_n (by omega)]; exact hz6, hz7, fun i a => by rw [zup_n (by omega)]; exact hz8 i a, hz9⟩⟩
  refine j_icmp_ge (tgt := 113) jb dX12_putRow_65 (by decide) (by omega) (by omega) (fun c_65 => ?_) (fun c_65 => ?_)
  · skip
    refine j_aload_n jb dX12_putRow_113 2 rfl ?_
    refine j_iload_n jb dX12_putRow_114 4 rfl ?_
    refine j_callV (wr := [(va, aI x.g 400 val), (yb, aI x.g 4 oc), (re, aL x.g 400 rs3), (ua, aL x.g 400 U3), (mk, aI x.g 4000 M26), (rt, aI x.g 8 (zup (zup (zup tt (4 * q) kind) ((4 * q) + 1) wa) ((4 * q) + 3) (-1))), (rk, aI x.g 32 kk), (rx, aI x.g 32 xk)]) jb k_X12_orderOf i_X12_orderOf s_X12_orderOf l_X12_141 (C_X12_orderOf x.l x.g n0 my sm st yb pkr rt rk rx si gt va re ua mk rki rea rby th dp sz mo ms hpk hsh vn wd wa pk3 px3 bp3 b26 pl cd rn rch rtn rdp rsh kind (by omega)) 0 14 rfl rfl rfl [0] [1, 2, 3, 4, 5, 6, 7, 8] (by decide) rfl rfl (by decide) (by decide) rfl rfl (Nat.le_of_ble_eq_true rfl) (by decide) dX12_putRow_115 (fun v w hp => ?_)
    obtain ⟨o, rfl, rfl, h115⟩ := hp
    refine j_norm (lv' := [(4, .long (lI r7)), (3, .int (iI bi)), (0, .ref n0), (1, .int (iI q)), (2, .int (iI kind))]) (st' := [.int (iI o)]) (ws' := [(n0, oX12 th dp my sm st sz mo ms yb hpk pkr rt rk rx hsh si gt va vn wd wa re ua pk3 px3 bp3 mk b26 pl cd rn rch rtn rdp rki rea rby rsh), (va, aI x.g 400 val), (yb, aI x.g 4 oc), (re, aL x.g 400 rs3), (ua, aL x.g 400 U3), (mk, aI x.g 4000 M26), (rt, aI x.g 8 (zup (zup (zup tt (4 * q) kind) ((4 * q) + 1) wa) ((4 * q) + 3) (-1))), (rk, aI x.g 32 kk), (rx, aI x.g 32 xk)]) [0, 1, 2, 3, 4] [8, 0, 1, 2, 3, 4, 5, 6, 7] rfl rfl (by decide) rfl ?_
    refine j_istore (lv' := [(6, .int (iI o)), (4, .long (lI r7)), (3, .int (iI bi)), (0, .ref n0), (1, .int (iI q)), (2, .int (iI kind))]) jb dX12_putRow_118 (by decide) rfl ?_
    have ho : o = (kO mo kind) := by (unfold kO; (by_cases z : kind = 7); { rw [if_pos z]; exact h115.2.2 z }; { rw [if_neg z]; exact h115.2.1 (by omega) (by omega) })
    have ho5 := kO_5 hoo (show 2 ≤ kind ∧ kind ≤ 7 by omega)
    rw [← ho] at ho5
    have hfor := (fore_facts hn hoo (show 2 ≤ kind by omega) hrow).1
    have h7b := h7.2 (by omega) hne
    have hbp : bp3 = p0 := by (rw [h7b.1]; exact (hrow.2.2.2.2.2.2 (by omega)).1.symm)
    have hkx := (hrow.2.2.2.2.2.2 (by omega)).2.2
    have hbd := body_fore (v := val) (oc := oc) (K := K0) (X := X0) (n := vn) (b := wd) (oo := mo) (os := ms) (p := p0) (show 2 ≤ kind by omega)
    have hUe : eqOn U3 (kU val mo ms oc kind) o vn := fun i a b => (h7b.2 i (by omega) b).1
    have hki := kU_in hfor.2.2.1
    rw [← ho] at hfor hbd hki hkx
    have hpb := partsB_congr (K := K0) (X := X0) (c := 2 ^ p0.toNat) ⟨ho5.1, hfor.2.2.2.1.1⟩ hfor.2.2.2.1.2 hUe (2 ^ p0.toNat) (by rw [Int.natCast_pow]; exact Int.le_refl _)
    have hfl : (foreB val (kU val mo ms oc kind) vn o wd p0 K0 X0).length = (valsB val wd o.toNat).length + 3 + (partsB U3 o (vn / 2 ^ p0.toNat) K0 X0 (2 ^ p0.toNat)).length := by (unfold foreB; rw [hpb]; simp only [List.length_append, nb_len])
    rw [hbd, List.length_append, hfl] at hl7
    have hq1 := pw_pos p0
    refine j_iload_n jb dX12_putRow_120 5 rfl ?_
    refine j_bipush jb dX12_putRow_121 (by decide) ?_
    have J176 : ∀ (q8 : Int) (M8 : Int → Int), (wrote 4000 M26 b26 (if kind = 7 then headB mo ms oc else []) M8 ∧ q8 = b26 + (if kind = 7 then headB mo ms oc else []).length ∧ tl M8 q8) → JW x 0 0 176 [(0, .ref n0), (1, .int (iI q)), (2, .int (iI kind)), (3, .int (iI bi)), (6, .int (iI o))] [] [(n0, oX12 th dp my sm st sz mo ms yb hpk pkr rt rk rx hsh si gt va vn wd wa re ua pk3 px3 bp3 mk q8 pl cd rn rch rtn rdp rki rea rby rsh), (va, aI x.g 400 val), (yb, aI x.g 4 oc), (re, aL x.g 400 rs3), (ua, aL x.g 400 U3), (mk, aI x.g 4000 M8), (rt, aI x.g 8 (zup (zup (zup tt (4 * q) kind) ((4 * q) + 1) wa) ((4 * q) + 3) (-1))), (rk, aI x.g 32 kk), (rx, aI x.g 32 xk)] := by
      intro q8 M8 ⟨hv1, hv2, hv3⟩
      refine j_iconst jb dX12_putRow_176 ?_
      refine j_istore (lv' := [(7, .int (iI 0)), (0, .ref n0), (1, .int (iI q)), (2, .int (iI kind)), (3, .int (iI bi)), (6, .int (iI o))]) jb dX12_putRow_177 (by decide) rfl ?_
      have L179 : ∀ (fu : Nat) (i q1 : Int) (M1 : Int → Int), (0 ≤ i ∧ i ≤ o ∧ q1 = q8 + (valsB val wd i.toNat).length ∧ wrote 4000 M8 q8 (valsB val wd i.toNat) M1 ∧ tl M1 q1) → (o - i).toNat < fu → JW x 0 0 179 [(0, .ref n0), (1, .int (iI q)), (2, .int (iI kind)), (3, .int (iI bi)), (6, .int (iI o)), (7, .int (iI i))] [] [(n0, oX12 th dp my sm st sz mo ms yb hpk pkr rt rk rx hsh si gt va vn wd wa re ua pk3 px3 bp3 mk q1 pl cd rn rch rtn rdp rki rea rby rsh), (va, aI x.g 400 val), (yb, aI x.g 4 oc), (re, aL x.g 400 rs3), (ua, aL x.g 400 U3), (mk, aI x.g 4000 M1), (rt, aI x.g 8 (zup (zup (zup tt (4 * q) kind) ((4 * q) + 1) wa) ((4 * q) + 3) (-1))), (rk, aI x.g 32 kk), (rx, aI x.g 32 xk)] := by
        intro fu
        induction fu with
        | zero => intro i q1 M1 _ hm; exact absurd hm (by omega)
        | succ fu ih =>
          intro i q1 M1 ⟨hi1, hi2, hi3, hi4, hi5⟩ hm179
          have ih179 := ih
          clear ih
          refine j_iload jb dX12_putRow_179 5 rfl ?_
          refine j_iload jb dX12_putRow_181 4 rfl ?_
          refine j_icmp_ge (tgt := 208) jb dX12_putRow_183 (by decide) (by omega) (by omega) (fun c_183 => ?_) (fun c_183 => ?_)
          · skip
            refine j_aload_n jb dX12_putRow_208 0 rfl ?_
            refine j_iload_n jb dX12_putRow_209 1 rfl ?_
            refine j_iload jb dX12_putRow_210 4 rfl ?_
            refine j_callV (wr := [(va, aI x.g 400 val), (yb, aI x.g 4 oc)]) jb k_X12_putRests i_X12_putRests s_X12_putRests l_X12_170 (C_X12_putRests x.l x.g n0 my sm st yb pkr rt rk rx si gt va re ua mk rki rea rby th dp sz mo ms hpk hsh vn wd wa pk3 px3 bp3 q1 pl cd rn rch rtn rdp rsh q o rs3 U3 M1 (zup (zup (zup tt (4 * q) kind) ((4 * q) + 1) wa) ((4 * q) + 3) (-1)) kk xk K0 X0 (by omega) hn ho5 (by rw [hbp]; exact hfor.1) (by rw [hbp]; exact hfor.2.2.2.1) (fun i a b => by rw [hUe i a b]; exact hki i a b) (fun i a b => by rw [hUe i a b, (h7b.2 i (by omega) b).2, kU_kF]) (by rw [hbp]; exact fun j a b => by rw [(hkx j a b).1, (hkx j a b).2, pS_congr (fun i c d => hUe i (by have r := prange ⟨ho5.1, hfor.2.2.2.1.1⟩ hfor.2.2.2.1.2 ⟨a, b⟩; omega) (by have r := prange ⟨ho5.1, hfor.2.2.2.1.1⟩ hfor.2.2.2.1.2 ⟨a, b⟩; omega) : eqOn U3 (kU val mo ms oc kind) (pst o (vn / 2 ^ p0.toNat) j) _)]; exact ⟨rfl, rfl⟩) (by rw [hbp]; rw [show i = o by omega] at hi3; omega) hi4.1 hi5) 0 14 rfl rfl rfl [0, 3, 4, 5, 6, 7, 8] [1, 2] (by decide) rfl rfl (by decide) (by decide) rfl rfl (Nat.le_of_ble_eq_true rfl) (by decide) dX12_putRow_212 (fun v w hp => ?_)
            obtain ⟨b212, pk5, px5, M212, k5, x5, rfl, rfl, h212⟩ := hp
            refine j_norm (lv' := [(0, .ref n0), (1, .int (iI q)), (2, .int (iI kind)), (3, .int (iI bi)), (6, .int (iI o)), (7, .int (iI i))]) (st' := []) (ws' := [(n0, oX12 th dp my sm st sz mo ms yb hpk pkr rt rk rx hsh si gt va vn wd wa re ua pk5 px5 bp3 mk b212 pl cd rn rch rtn rdp rki rea rby rsh), (va, aI x.g 400 val), (yb, aI x.g 4 oc), (re, aL x.g 400 rs3), (ua, aL x.g 400 U3), (mk, aI x.g 4000 M212), (rt, aI x.g 8 (zup (zup (zup (zup tt (4 * q) kind) ((4 * q) + 1) wa) ((4 * q) + 3) (-1)) (4 * q + 3) bp3)), (rk, aI x.g 32 k5), (rx, aI x.g 32 x5)]) [0, 1, 2, 3, 4, 5] [2, 0, 1, 3, 4, 5, 6, 7, 8] rfl rfl (by decide) rfl ?_
            rw [hbp] at h212
            refine j_norm (lv' := [(0, .ref n0), (1, .int (iI q)), (2, .int (iI kind)), (3, .int (iI bi))]) (st' := []) (ws' := [(n0, oX12 th dp my sm st sz mo ms yb hpk pkr rt rk rx hsh si gt va vn wd wa re ua pk5 px5 bp3 mk b212 pl cd rn rch rtn rdp rki rea rby rsh), (va, aI x.g 400 val), (yb, aI x.g 4 oc), (re, aL x.g 400 rs3), (ua, aL x.g 400 U3), (mk, aI x.g 4000 M212), (rt, aI x.g 8 (zup (zup (zup (zup tt (4 * q) kind) ((4 * q) + 1) wa) ((4 * q) + 3) (-1)) (4 * q + 3) bp3)), (rk, aI x.g 32 k5), (rx, aI x.g 32 x5)]) [0, 1, 2, 3] [0, 1, 2, 3, 4, 5, 6, 7, 8] rfl rfl (by decide) rfl ?_
            exact J215 b212 pk5 px5 M212 (zup (zup (zup (zup tt (4 * q) kind) ((4 * q) + 1) wa) ((4 * q) + 3) (-1)) (4 * q + 3) bp3) k5 x5 (by rw [show i = o by omega] at hi3 hi4; have w9 := wrote_app (wrote_app hw26 hv1 hb.1 (by rw [List.length_append, nb_len, nb_len]; omega)) (wrote_app hi4 h212.2.1 (by omega) hi3) hb.1 (by rw [List.length_append, List.length_append, nb_len, nb_len]; omega); exact ⟨by omega, by (rw [hpre, hbd]; unfold foreB; rw [← hpb]; simp only [List.append_assoc] at w9 ⊢; exact w9), h212.2.2.1, by rw [zup_n (by omega), zup_n (by omega), zup_n (by omega), zup_s], by rw [zup_n (by omega), zup_n (by omega), zup_s], by rw [zup_s, hbp], fun j a b => h212.2.2.2.1 j a (by rw [cparts_p hfor.1.1] at b; exact b), fun t a => by rw [zup_n (by omega), zup_n (by omega), zup_n (by omega), zup_n (by omega)], h212.2.2.2.2⟩)
          · skip
            refine j_aload_n jb dX12_putRow_186 0 rfl ?_
            refine j_aload_n jb dX12_putRow_187 0 rfl ?_
            refine j_get jb f_X12_47 dX12_putRow_188 0 rfl rfl ?_
            refine j_iload jb dX12_putRow_191 5 rfl ?_
            refine j_iald jb dX12_putRow_193 1 rfl (by omega) (by decide) ?_
            refine j_i2l jb dX12_putRow_194 (by have := hv9 i hi1 (by omega); omega) ?_
            refine j_aload_n jb dX12_putRow_195 0 rfl ?_
            refine j_get jb f_X12_98 dX12_putRow_196 0 rfl rfl ?_
            refine j_callV (wr := [(va, aI x.g 400 val), (yb, aI x.g 4 oc), (re, aL x.g 400 rs3), (ua, aL x.g 400 U3), (rt, aI x.g 8 (zup (zup (zup tt (4 * q) kind) ((4 * q) + 1) wa) ((4 * q) + 3) (-1))), (rk, aI x.g 32 kk), (rx, aI x.g 32 xk)]) jb k_X12_put i_X12_put s_X12_put l_X12_166 (C_X12_put x.l x.g n0 my sm st yb pkr rt rk rx si gt va re ua mk rki rea rby th dp sz mo ms hpk hsh vn wd wa pk3 px3 bp3 q1 pl cd rn rch rtn rdp rsh (val i) wd M1 (by have := hv9 i hi1 (by omega); omega) (by omega) (by have z := valsB_room (v := val) (b := wd) hi1 (show i < o by omega) (by omega); omega) hi4.1 hi5) 0 14 rfl rfl rfl [0, 5] [1, 2, 3, 4, 6, 7, 8] (by decide) rfl rfl (by decide) (by decide) rfl rfl (Nat.le_of_ble_eq_true rfl) (by decide) dX12_putRow_199 (fun v w hp => ?_)
            obtain ⟨b199, M199, rfl, rfl, h199⟩ := hp
            refine j_norm (lv' := [(0, .ref n0), (1, .int (iI q)), (2, .int (iI kind)), (3, .int (iI bi)), (6, .int (iI o)), (7, .int (iI i))]) (st' := []) (ws' := [(n0, oX12 th dp my sm st sz mo ms yb hpk pkr rt rk rx hsh si gt va vn wd wa re ua pk3 px3 bp3 mk b199 pl cd rn rch rtn rdp rki rea rby rsh), (va, aI x.g 400 val), (yb, aI x.g 4 oc), (re, aL x.g 400 rs3), (ua, aL x.g 400 U3), (mk, aI x.g 4000 M199), (rt, aI x.g 8 (zup (zup (zup tt (4 * q) kind) ((4 * q) + 1) wa) ((4 * q) + 3) (-1))), (rk, aI x.g 32 kk), (rx, aI x.g 32 xk)]) [0, 1, 2, 3, 4, 5] [7, 0, 1, 2, 3, 8, 4, 5, 6] rfl rfl (by decide) rfl ?_
            refine j_iinc (lv' := [(7, .int (iI (i + 1))), (0, .ref n0), (1, .int (iI q)), (2, .int (iI kind)), (3, .int (iI bi)), (6, .int (iI o))]) jb dX12_putRow_202 5 rfl (by decide) rfl ?_
            refine j_goto (tgt := 179) jb dX12_putRow_205 (by decide) ?_
            refine j_norm (lv' := [(0, .ref n0), (1, .int (iI q)), (2, .int (iI kind)), (3, .int (iI bi)), (6, .int (iI o)), (7, .int (iI (i + 1)))]) (st' := []) (ws' := [(n0, oX12 th dp my sm st sz mo ms yb hpk pkr rt rk rx hsh si gt va vn wd wa re ua pk3 px3 bp3 mk b199 pl cd rn rch rtn rdp rki rea rby rsh), (va, aI x.g 400 val), (yb, aI x.g 4 oc), (re, aL x.g 400 rs3), (ua, aL x.g 400 U3), (mk, aI x.g 4000 M199), (rt, aI x.g 8 (zup (zup (zup tt (4 * q) kind) ((4 * q) + 1) wa) ((4 * q) + 3) (-1))), (rk, aI x.g 32 kk), (rx, aI x.g 32 xk)]) [1, 2, 3, 4, 5, 0] [0, 1, 2, 3, 4, 5, 6, 7, 8] rfl rfl (by decide) rfl ?_
            exact ih179 (i + 1) b199 M199 (by have z := valsB_next (v := val) (b := wd) hi1; exact ⟨by omega, by omega, by rw [z, List.length_append, nb_len]; omega, by rw [z]; exact wrote_app hi4 h199.2.1 (by omega) hi3, h199.2.2⟩) (by omega)
      refine j_norm (lv' := [(0, .ref n0), (1, .int (iI q)), (2, .int (iI kind)), (3, .int (iI bi)), (6, .int (iI o)), (7, .int (iI 0))]) (st' := []) (ws' := [(n0, oX12 th dp my sm st sz mo ms yb hpk pkr rt rk rx hsh si gt va vn wd wa re ua pk3 px3 bp3 mk q8 pl cd rn rch rtn rdp rki rea rby rsh), (va, aI x.g 400 val), (yb, aI x.g 4 oc), (re, aL x.g 400 rs3), (ua, aL x.g 400 U3), (mk, aI x.g 4000 M8), (rt, aI x.g 8 (zup (zup (zup tt (4 * q) kind) ((4 * q) + 1) wa) ((4 * q) + 3) (-1))), (rk, aI x.g 32 kk), (rx, aI x.g 32 xk)]) [1, 2, 3, 4, 5, 0] [0, 1, 2, 3, 4, 5, 6, 7, 8] rfl rfl (by decide) rfl ?_
      exact L179 _ 0 q8 M8 ⟨by decide, by omega, by show q8 = q8 + ((0 : Nat) : Int); omega, wrote_nil hv1.1, hv3⟩ (Nat.lt_succ_self _)
    refine j_icmp_ne (tgt := 176) jb dX12_putRow_123 (by decide) (by omega) (by omega) (fun c_123 => ?_) (fun c_123 => ?_)
    · skip
      refine j_norm (lv' := [(0, .ref n0), (1, .int (iI q)), (2, .int (iI kind)), (3, .int (iI bi)), (6, .int (iI o))]) (st' := []) (ws' := [(n0, oX12 th dp my sm st sz mo ms yb hpk pkr rt rk rx hsh si gt va vn wd wa re ua pk3 px3 bp3 mk b26 pl cd rn rch rtn rdp rki rea rby rsh), (va, aI x.g 400 val), (yb, aI x.g 4 oc), (re, aL x.g 400 rs3), (ua, aL x.g 400 U3), (mk, aI x.g 4000 M26), (rt, aI x.g 8 (zup (zup (zup tt (4 * q) kind) ((4 * q) + 1) wa) ((4 * q) + 3) (-1))), (rk, aI x.g 32 kk), (rx, aI x.g 32 xk)]) [3, 4, 5, 2, 0] [0, 1, 2, 3, 4, 5, 6, 7, 8] rfl rfl (by decide) rfl ?_
      exact J176 b26 M26 ⟨by rw [if_neg c_123]; exact wrote_nil h26.2.1.1, by rw [if_neg c_123]; show b26 = b26 + ((0 : Nat) : Int); omega, h26.2.2⟩
    · skip
      have hm7 := hfor.2.2.2.2.2 c_123
      have hom : o = mo := h115.2.2 c_123
      have hhl := headB_len (os := ms) (oc := oc) (show 0 ≤ mo by omega)
      rw [if_pos c_123] at hl7
      refine j_aload_n jb dX12_putRow_126 3 rfl ?_
      refine j_iload jb dX12_putRow_127 0 rfl ?_
      refine j_iconst jb dX12_putRow_129 ?_
      refine j_isub jb dX12_putRow_130 ?_
      refine j_i2l jb dX12_putRow_131 (by omega) ?_
      refine j_iconst jb dX12_putRow_132 ?_
      refine j_callV (wr := [(va, aI x.g 400 val), (yb, aI x.g 4 oc), (re, aL x.g 400 rs3), (ua, aL x.g 400 U3), (rt, aI x.g 8 (zup (zup (zup tt (4 * q) kind) ((4 * q) + 1) wa) ((4 * q) + 3) (-1))), (rk, aI x.g 32 kk), (rx, aI x.g 32 xk)]) jb k_X12_put i_X12_put s_X12_put l_X12_166 (C_X12_put x.l x.g n0 my sm st yb pkr rt rk rx si gt va re ua mk rki rea rby th dp sz mo ms hpk hsh vn wd wa pk3 px3 bp3 b26 pl cd rn rch rtn rdp rsh (o - 1) 2 M26 (by omega) (by decide) (by omega) h26.2.1.1 h26.2.2) 0 14 rfl rfl rfl [0, 5] [1, 2, 3, 4, 6, 7, 8] (by decide) rfl rfl (by decide) (by decide) rfl rfl (Nat.le_of_ble_eq_true rfl) (by decide) dX12_putRow_133 (fun v w hp => ?_)
      obtain ⟨b133, M133, rfl, rfl, h133⟩ := hp
      refine j_norm (lv' := [(6, .int (iI o)), (4, .long (lI r7)), (3, .int (iI bi)), (0, .ref n0), (1, .int (iI q)), (2, .int (iI kind))]) (st' := []) (ws' := [(n0, oX12 th dp my sm st sz mo ms yb hpk pkr rt rk rx hsh si gt va vn wd wa re ua pk3 px3 bp3 mk b133 pl cd rn rch rtn rdp rki rea rby rsh), (va, aI x.g 400 val), (yb, aI x.g 4 oc), (re, aL x.g 400 rs3), (ua, aL x.g 400 U3), (mk, aI x.g 4000 M133), (rt, aI x.g 8 (zup (zup (zup tt (4 * q) kind) ((4 * q) + 1) wa) ((4 * q) + 3) (-1))), (rk, aI x.g 32 kk), (rx, aI x.g 32 xk)]) [0, 1, 2, 3, 4, 5] [7, 0, 1, 2, 3, 8, 4, 5, 6] rfl rfl (by decide) rfl ?_
      refine j_aload_n jb dX12_putRow_136 3 rfl ?_
      refine j_aload_n jb dX12_putRow_137 3 rfl ?_
      refine j_get jb f_X12_89 dX12_putRow_138 0 rfl rfl ?_
      refine j_i2l jb dX12_putRow_141 (by omega) ?_
      refine j_iconst jb dX12_putRow_142 ?_
      refine j_callV (wr := [(va, aI x.g 400 val), (yb, aI x.g 4 oc), (re, aL x.g 400 rs3), (ua, aL x.g 400 U3), (rt, aI x.g 8 (zup (zup (zup tt (4 * q) kind) ((4 * q) + 1) wa) ((4 * q) + 3) (-1))), (rk, aI x.g 32 kk), (rx, aI x.g 32 xk)]) jb k_X12_put i_X12_put s_X12_put l_X12_166 (C_X12_put x.l x.g n0 my sm st yb pkr rt rk rx si gt va re ua mk rki rea rby th dp sz mo ms hpk hsh vn wd wa pk3 px3 bp3 b133 pl cd rn rch rtn rdp rsh ms 4 M133 (by omega) (by decide) (by omega) h133.2.1.1 h133.2.2) 0 14 rfl rfl rfl [0, 5] [1, 2, 3, 4, 6, 7, 8] (by decide) rfl rfl (by decide) (by decide) rfl rfl (Nat.le_of_ble_eq_true rfl) (by decide) dX12_putRow_143 (fun v w hp => ?_)
      obtain ⟨b143, M143, rfl, rfl, h143⟩ := hp
      refine j_norm (lv' := [(6, .int (iI o)), (4, .long (lI r7)), (3, .int (iI bi)), (0, .ref n0), (1, .int (iI q)), (2, .int (iI kind))]) (st' := []) (ws' := [(n0, oX12 th dp my sm st sz mo ms yb hpk pkr rt rk rx hsh si gt va vn wd wa re ua pk3 px3 bp3 mk b143 pl cd rn rch rtn rdp rki rea rby rsh), (va, aI x.g 400 val), (yb, aI x.g 4 oc), (re, aL x.g 400 rs3), (ua, aL x.g 400 U3), (mk, aI x.g 4000 M143), (rt, aI x.g 8 (zup (zup (zup tt (4 * q) kind) ((4 * q) + 1) wa) ((4 * q) + 3) (-1))), (rk, aI x.g 32 kk), (rx, aI x.g 32 xk)]) [0, 1, 2, 3, 4, 5] [7, 0, 1, 2, 3, 8, 4, 5, 6] rfl rfl (by decide) rfl ?_
      refine j_iconst jb dX12_putRow_146 ?_
      refine j_istore (lv' := [(7, .int (iI 0)), (6, .int (iI o)), (4, .long (lI r7)), (3, .int (iI bi)), (0, .ref n0), (1, .int (iI q)), (2, .int (iI kind))]) jb dX12_putRow_147 (by decide) rfl ?_
      have L149 : ∀ (fu : Nat) (j q1 : Int) (M1 : Int → Int), (0 ≤ j ∧ j ≤ mo ∧ q1 = b143 + (cofB oc j.toNat).length ∧ wrote 4000 M143 b143 (cofB oc j.toNat) M1 ∧ tl M1 q1) → (mo - j).toNat < fu → JW x 0 0 149 [(0, .ref n0), (1, .int (iI q)), (2, .int (iI kind)), (3, .int (iI bi)), (6, .int (iI o)), (7, .int (iI j))] [] [(n0, oX12 th dp my sm st sz mo ms yb hpk pkr rt rk rx hsh si gt va vn wd wa re ua pk3 px3 bp3 mk q1 pl cd rn rch rtn rdp rki rea rby rsh), (va, aI x.g 400 val), (yb, aI x.g 4 oc), (re, aL x.g 400 rs3), (ua, aL x.g 400 U3), (mk, aI x.g 4000 M1), (rt, aI x.g 8 (zup (zup (zup tt (4 * q) kind) ((4 * q) + 1) wa) ((4 * q) + 3) (-1))), (rk, aI x.g 32 kk), (rx, aI x.g 32 xk)] := by
        intro fu
        induction fu with
        | zero => intro j q1 M1 _ hm; exact absurd hm (by omega)
        | succ fu ih =>
          intro j q1 M1 ⟨hc1, hc2, hc3, hc4, hc5⟩ hm149
          have ih149 := ih
          clear ih
          refine j_iload jb dX12_putRow_149 5 rfl ?_
          refine j_iload jb dX12_putRow_151 4 rfl ?_
          refine j_icmp_ge (tgt := 176) jb dX12_putRow_153 (by decide) (by omega) (by omega) (fun c_153 => ?_) (fun c_153 => ?_)
          · skip
            refine j_norm (lv' := [(0, .ref n0), (1, .int (iI q)), (2, .int (iI kind)), (3, .int (iI bi)), (6, .int (iI o))]) (st' := []) (ws' := [(n0, oX12 th dp my sm st sz mo ms yb hpk pkr rt rk rx hsh si gt va vn wd wa re ua pk3 px3 bp3 mk q1 pl cd rn rch rtn rdp rki rea rby rsh), (va, aI x.g 400 val), (yb, aI x.g 4 oc), (re, aL x.g 400 rs3), (ua, aL x.g 400 U3), (mk, aI x.g 4000 M1), (rt, aI x.g 8 (zup (zup (zup tt (4 * q) kind) ((4 * q) + 1) wa) ((4 * q) + 3) (-1))), (rk, aI x.g 32 kk), (rx, aI x.g 32 xk)]) [0, 1, 2, 3, 4] [0, 1, 2, 3, 4, 5, 6, 7, 8] rfl rfl (by decide) rfl ?_
            exact J176 q1 M1 (by have hjo : j = mo := (by omega); rw [hjo] at hc3 hc4; have hcl := cofB_len oc mo.toNat; have y9 := h133.2.1; rw [hom] at y9; exact ⟨by rw [if_pos c_123]; exact wrote_app (wrote_app y9 h143.2.1 (by omega) (by rw [nb_len]; omega)) hc4 (by omega) (by rw [List.length_append, nb_len, nb_len]; omega), by rw [if_pos c_123]; omega, hc5⟩)
          · skip
            refine j_aload_n jb dX12_putRow_156 0 rfl ?_
            refine j_aload_n jb dX12_putRow_157 0 rfl ?_
            refine j_get jb f_X12_26 dX12_putRow_158 0 rfl rfl ?_
            refine j_iload jb dX12_putRow_161 5 rfl ?_
            refine j_iald jb dX12_putRow_163 2 rfl (by omega) (by decide) ?_
            refine j_i2l jb dX12_putRow_164 (by have := hcf j hc1 (by omega); omega) ?_
            refine j_bipush jb dX12_putRow_165 (by decide) ?_
            refine j_callV (wr := [(va, aI x.g 400 val), (yb, aI x.g 4 oc), (re, aL x.g 400 rs3), (ua, aL x.g 400 U3), (rt, aI x.g 8 (zup (zup (zup tt (4 * q) kind) ((4 * q) + 1) wa) ((4 * q) + 3) (-1))), (rk, aI x.g 32 kk), (rx, aI x.g 32 xk)]) jb k_X12_put i_X12_put s_X12_put l_X12_166 (C_X12_put x.l x.g n0 my sm st yb pkr rt rk rx si gt va re ua mk rki rea rby th dp sz mo ms hpk hsh vn wd wa pk3 px3 bp3 q1 pl cd rn rch rtn rdp rsh (oc j) 10 M1 (by have := hcf j hc1 (by omega); omega) (by decide) (by have := cofB_len oc j.toNat; omega) hc4.1 hc5) 0 14 rfl rfl rfl [0, 5] [1, 2, 3, 4, 6, 7, 8] (by decide) rfl rfl (by decide) (by decide) rfl rfl (Nat.le_of_ble_eq_true rfl) (by decide) dX12_putRow_167 (fun v w hp => ?_)
            obtain ⟨b167, M167, rfl, rfl, h167⟩ := hp
            refine j_norm (lv' := [(0, .ref n0), (1, .int (iI q)), (2, .int (iI kind)), (3, .int (iI bi)), (6, .int (iI o)), (7, .int (iI j))]) (st' := []) (ws' := [(n0, oX12 th dp my sm st sz mo ms yb hpk pkr rt rk rx hsh si gt va vn wd wa re ua pk3 px3 bp3 mk b167 pl cd rn rch rtn rdp rki rea rby rsh), (va, aI x.g 400 val), (yb, aI x.g 4 oc), (re, aL x.g 400 rs3), (ua, aL x.g 400 U3), (mk, aI x.g 4000 M167), (rt, aI x.g 8 (zup (zup (zup tt (4 * q) kind) ((4 * q) + 1) wa) ((4 * q) + 3) (-1))), (rk, aI x.g 32 kk), (rx, aI x.g 32 xk)]) [0, 1, 2, 3, 4, 5] [7, 0, 1, 2, 3, 8, 4, 5, 6] rfl rfl (by decide) rfl ?_
            refine j_iinc (lv' := [(7, .int (iI (j + 1))), (0, .ref n0), (1, .int (iI q)), (2, .int (iI kind)), (3, .int (iI bi)), (6, .int (iI o))]) jb dX12_putRow_170 5 rfl (by decide) rfl ?_
            refine j_goto (tgt := 149) jb dX12_putRow_173 (by decide) ?_
            refine j_norm (lv' := [(0, .ref n0), (1, .int (iI q)), (2, .int (iI kind)), (3, .int (iI bi)), (6, .int (iI o)), (7, .int (iI (j + 1)))]) (st' := []) (ws' := [(n0, oX12 th dp my sm st sz mo ms yb hpk pkr rt rk rx hsh si gt va vn wd wa re ua pk3 px3 bp3 mk b167 pl cd rn rch rtn rdp rki rea rby rsh), (va, aI x.g 400 val), (yb, aI x.g 4 oc), (re, aL x.g 400 rs3), (ua, aL x.g 400 U3), (mk, aI x.g 4000 M167), (rt, aI x.g 8 (zup (zup (zup tt (4 * q) kind) ((4 * q) + 1) wa) ((4 * q) + 3) (-1))), (rk, aI x.g 32 kk), (rx, aI x.g 32 xk)]) [1, 2, 3, 4, 5, 0] [0, 1, 2, 3, 4, 5, 6, 7, 8] rfl rfl (by decide) rfl ?_
            exact ih149 (j + 1) b167 M167 (by have z := cofB_next (c := oc) hc1; exact ⟨by omega, by omega, by rw [z, List.length_append, nb_len]; omega, by rw [z]; exact wrote_app hc4 h167.2.1 (by omega) hc3, h167.2.2⟩) (by omega)
      refine j_norm (lv' := [(0, .ref n0), (1, .int (iI q)), (2, .int (iI kind)), (3, .int (iI bi)), (6, .int (iI o)), (7, .int (iI 0))]) (st' := []) (ws' := [(n0, oX12 th dp my sm st sz mo ms yb hpk pkr rt rk rx hsh si gt va vn wd wa re ua pk3 px3 bp3 mk b143 pl cd rn rch rtn rdp rki rea rby rsh), (va, aI x.g 400 val), (yb, aI x.g 4 oc), (re, aL x.g 400 rs3), (ua, aL x.g 400 U3), (mk, aI x.g 4000 M143), (rt, aI x.g 8 (zup (zup (zup tt (4 * q) kind) ((4 * q) + 1) wa) ((4 * q) + 3) (-1))), (rk, aI x.g 32 kk), (rx, aI x.g 32 xk)]) [4, 5, 6, 3, 1, 0] [0, 1, 2, 3, 4, 5, 6, 7, 8] rfl rfl (by decide) rfl ?_
      exact L149 _ 0 b143 M143 ⟨by decide, by omega, by show b143 = b143 + ((0 : Nat) : Int); omega, wrote_nil h143.2.1.1, h143.2.2⟩ (Nat.lt_succ_self _)
  · skip
    obtain ⟨cnt, hcnt⟩ : ∃ cnt : Int, cnt = (if kind = 0 then 1 else vn) := ⟨_, rfl⟩
    have hcn0 : kind = 0 → cnt = 1 := fun z => by (rw [hcnt, if_pos z])
    have hcn1 : ¬ kind = 0 → cnt = vn := fun z => by (rw [hcnt, if_neg z])
    have hcni : 1 ≤ cnt ∧ cnt ≤ vn := by omega
    clear hcnt
    have hbd := body_vals (v := val) (oc := oc) (K := K0) (X := X0) (n := vn) (b := wd) (oo := mo) (os := ms) (p := p0) (show 0 ≤ kind ∧ kind < 2 by omega) hcn0 hcn1
    rw [hbd] at hl7 hpre
    have hp0 : p0 = -1 := hrow.2.2.2.2.2.1 (by omega)
    refine j_iconst jb dX12_putRow_68 ?_
    refine j_istore (lv' := [(6, .int (iI 0)), (4, .long (lI r7)), (3, .int (iI bi)), (0, .ref n0), (1, .int (iI q)), (2, .int (iI kind))]) jb dX12_putRow_69 (by decide) rfl ?_
    have L71 : ∀ (fu : Nat) (i q1 : Int) (M1 : Int → Int), (0 ≤ i ∧ i ≤ cnt ∧ q1 = b26 + (valsB val wd i.toNat).length ∧ wrote 4000 M26 b26 (valsB val wd i.toNat) M1 ∧ tl M1 q1) → (cnt - i).toNat < fu → JW x 0 0 71 [(0, .ref n0), (1, .int (iI q)), (2, .int (iI kind)), (3, .int (iI bi)), (6, .int (iI i))] [] [(n0, oX12 th dp my sm st sz mo ms yb hpk pkr rt rk rx hsh si gt va vn wd wa re ua pk3 px3 bp3 mk q1 pl cd rn rch rtn rdp rki rea rby rsh), (va, aI x.g 400 val), (yb, aI x.g 4 oc), (re, aL x.g 400 rs3), (ua, aL x.g 400 U3), (mk, aI x.g 4000 M1), (rt, aI x.g 8 (zup (zup (zup tt (4 * q) kind) ((4 * q) + 1) wa) ((4 * q) + 3) (-1))), (rk, aI x.g 32 kk), (rx, aI x.g 32 xk)] := by
      intro fu
      induction fu with
      | zero => intro i q1 M1 _ hm; exact absurd hm (by omega)
      | succ fu ih =>
        intro i q1 M1 ⟨hi1, hi2, hi3, hi4, hi5⟩ hm71
        have ih71 := ih
        clear ih
        refine j_iload jb dX12_putRow_71 4 rfl ?_
        refine j_iload_n jb dX12_putRow_73 2 rfl ?_
        have J85 : ∀ (lm : Int), lm = cnt → JW x 0 0 85 [(0, .ref n0), (1, .int (iI q)), (2, .int (iI kind)), (3, .int (iI bi)), (6, .int (iI i))] [.int (iI lm), .int (iI i)] [(n0, oX12 th dp my sm st sz mo ms yb hpk pkr rt rk rx hsh si gt va vn wd wa re ua pk3 px3 bp3 mk q1 pl cd rn rch rtn rdp rki rea rby rsh), (va, aI x.g 400 val), (yb, aI x.g 4 oc), (re, aL x.g 400 rs3), (ua, aL x.g 400 U3), (mk, aI x.g 4000 M1), (rt, aI x.g 8 (zup (zup (zup tt (4 * q) kind) ((4 * q) + 1) wa) ((4 * q) + 3) (-1))), (rk, aI x.g 32 kk), (rx, aI x.g 32 xk)] := by
          intro lm hlm
          refine j_icmp_ge (tgt := 110) jb dX12_putRow_85 (by decide) (by omega) (by omega) (fun c_85 => ?_) (fun c_85 => ?_)
          · skip
            refine j_goto (tgt := 215) jb dX12_putRow_110 (by decide) ?_
            refine j_norm (lv' := [(0, .ref n0), (1, .int (iI q)), (2, .int (iI kind)), (3, .int (iI bi))]) (st' := []) (ws' := [(n0, oX12 th dp my sm st sz mo ms yb hpk pkr rt rk rx hsh si gt va vn wd wa re ua pk3 px3 bp3 mk q1 pl cd rn rch rtn rdp rki rea rby rsh), (va, aI x.g 400 val), (yb, aI x.g 4 oc), (re, aL x.g 400 rs3), (ua, aL x.g 400 U3), (mk, aI x.g 4000 M1), (rt, aI x.g 8 (zup (zup (zup tt (4 * q) kind) ((4 * q) + 1) wa) ((4 * q) + 3) (-1))), (rk, aI x.g 32 kk), (rx, aI x.g 32 xk)]) [0, 1, 2, 3] [0, 1, 2, 3, 4, 5, 6, 7, 8] rfl rfl (by decide) rfl ?_
            exact J215 q1 pk3 px3 M1 (zup (zup (zup tt (4 * q) kind) ((4 * q) + 1) wa) ((4 * q) + 3) (-1)) kk xk (by rw [show i = cnt by omega] at hi3 hi4; exact ⟨by omega, by rw [hpre]; exact wrote_app hw26 hi4 hb.1 (by rw [List.length_append, nb_len, nb_len]; omega), hi5, by rw [zup_n (by omega), zup_n (by omega), zup_s], by rw [zup_n (by omega), zup_s], by rw [zup_s, hp0], fun j a b => by rw [hp0] at b; exact absurd b (by show ¬ j < 0; omega), fun t a => by rw [zup_n (by omega), zup_n (by omega), zup_n (by omega)], fun _ _ => ⟨rfl, rfl⟩⟩)
          · skip
            refine j_aload_n jb dX12_putRow_88 0 rfl ?_
            refine j_aload_n jb dX12_putRow_89 0 rfl ?_
            refine j_get jb f_X12_47 dX12_putRow_90 0 rfl rfl ?_
            refine j_iload jb dX12_putRow_93 4 rfl ?_
            refine j_iald jb dX12_putRow_95 1 rfl (by omega) (by decide) ?_
            refine j_i2l jb dX12_putRow_96 (by have := hv9 i hi1 (by omega); omega) ?_
            refine j_aload_n jb dX12_putRow_97 0 rfl ?_
            refine j_get jb f_X12_98 dX12_putRow_98 0 rfl rfl ?_
            refine j_callV (wr := [(va, aI x.g 400 val), (yb, aI x.g 4 oc), (re, aL x.g 400 rs3), (ua, aL x.g 400 U3), (rt, aI x.g 8 (zup (zup (zup tt (4 * q) kind) ((4 * q) + 1) wa) ((4 * q) + 3) (-1))), (rk, aI x.g 32 kk), (rx, aI x.g 32 xk)]) jb k_X12_put i_X12_put s_X12_put l_X12_166 (C_X12_put x.l x.g n0 my sm st yb pkr rt rk rx si gt va re ua mk rki rea rby th dp sz mo ms hpk hsh vn wd wa pk3 px3 bp3 q1 pl cd rn rch rtn rdp rsh (val i) wd M1 (by have := hv9 i hi1 (by omega); omega) (by omega) (by have z := valsB_room (v := val) (b := wd) hi1 (show i < cnt by omega) (by omega); omega) hi4.1 hi5) 0 14 rfl rfl rfl [0, 5] [1, 2, 3, 4, 6, 7, 8] (by decide) rfl rfl (by decide) (by decide) rfl rfl (Nat.le_of_ble_eq_true rfl) (by decide) dX12_putRow_101 (fun v w hp => ?_)
            obtain ⟨b101, M101, rfl, rfl, h101⟩ := hp
            refine j_norm (lv' := [(0, .ref n0), (1, .int (iI q)), (2, .int (iI kind)), (3, .int (iI bi)), (6, .int (iI i))]) (st' := []) (ws' := [(n0, oX12 th dp my sm st sz mo ms yb hpk pkr rt rk rx hsh si gt va vn wd wa re ua pk3 px3 bp3 mk b101 pl cd rn rch rtn rdp rki rea rby rsh), (va, aI x.g 400 val), (yb, aI x.g 4 oc), (re, aL x.g 400 rs3), (ua, aL x.g 400 U3), (mk, aI x.g 4000 M101), (rt, aI x.g 8 (zup (zup (zup tt (4 * q) kind) ((4 * q) + 1) wa) ((4 * q) + 3) (-1))), (rk, aI x.g 32 kk), (rx, aI x.g 32 xk)]) [0, 1, 2, 3, 4] [7, 0, 1, 2, 3, 8, 4, 5, 6] rfl rfl (by decide) rfl ?_
            refine j_iinc (lv' := [(6, .int (iI (i + 1))), (0, .ref n0), (1, .int (iI q)), (2, .int (iI kind)), (3, .int (iI bi))]) jb dX12_putRow_104 4 rfl (by decide) rfl ?_
            refine j_goto (tgt := 71) jb dX12_putRow_107 (by decide) ?_
            refine j_norm (lv' := [(0, .ref n0), (1, .int (iI q)), (2, .int (iI kind)), (3, .int (iI bi)), (6, .int (iI (i + 1)))]) (st' := []) (ws' := [(n0, oX12 th dp my sm st sz mo ms yb hpk pkr rt rk rx hsh si gt va vn wd wa re ua pk3 px3 bp3 mk b101 pl cd rn rch rtn rdp rki rea rby rsh), (va, aI x.g 400 val), (yb, aI x.g 4 oc), (re, aL x.g 400 rs3), (ua, aL x.g 400 U3), (mk, aI x.g 4000 M101), (rt, aI x.g 8 (zup (zup (zup tt (4 * q) kind) ((4 * q) + 1) wa) ((4 * q) + 3) (-1))), (rk, aI x.g 32 kk), (rx, aI x.g 32 xk)]) [1, 2, 3, 4, 0] [0, 1, 2, 3, 4, 5, 6, 7, 8] rfl rfl (by decide) rfl ?_
            exact ih71 (i + 1) b101 M101 (by have z := valsB_next (v := val) (b := wd) hi1; exact ⟨by omega, by omega, by rw [z, List.length_append, nb_len]; omega, by rw [z]; exact wrote_app hi4 h101.2.1 (by omega) hi3, h101.2.2⟩) (by omega)
        refine j_if_ne (tgt := 81) jb dX12_putRow_74 (by decide) (by omega) (fun c_74 => ?_) (fun c_74 => ?_)
        · skip
          refine j_aload_n jb dX12_putRow_81 0 rfl ?_
          refine j_get jb f_X12_92 dX12_putRow_82 0 rfl rfl ?_
          refine j_norm (lv' := [(0, .ref n0), (1, .int (iI q)), (2, .int (iI kind)), (3, .int (iI bi)), (6, .int (iI i))]) (st' := [.int (iI vn), .int (iI i)]) (ws' := [(n0, oX12 th dp my sm st sz mo ms yb hpk pkr rt rk rx hsh si gt va vn wd wa re ua pk3 px3 bp3 mk q1 pl cd rn rch rtn rdp rki rea rby rsh), (va, aI x.g 400 val), (yb, aI x.g 4 oc), (re, aL x.g 400 rs3), (ua, aL x.g 400 U3), (mk, aI x.g 4000 M1), (rt, aI x.g 8 (zup (zup (zup tt (4 * q) kind) ((4 * q) + 1) wa) ((4 * q) + 3) (-1))), (rk, aI x.g 32 kk), (rx, aI x.g 32 xk)]) [0, 1, 2, 3, 4] [0, 1, 2, 3, 4, 5, 6, 7, 8] rfl rfl (by decide) rfl ?_
          exact J85 vn (by omega)
        · skip
          refine j_iconst jb dX12_putRow_77 ?_
          refine j_goto (tgt := 85) jb dX12_putRow_78 (by decide) ?_
          refine j_norm (lv' := [(0, .ref n0), (1, .int (iI q)), (2, .int (iI kind)), (3, .int (iI bi)), (6, .int (iI i))]) (st' := [.int (iI 1), .int (iI i)]) (ws' := [(n0, oX12 th dp my sm st sz mo ms yb hpk pkr rt rk rx hsh si gt va vn wd wa re ua pk3 px3 bp3 mk q1 pl cd rn rch rtn rdp rki rea rby rsh), (va, aI x.g 400 val), (yb, aI x.g 4 oc), (re, aL x.g 400 rs3), (ua, aL x.g 400 U3), (mk, aI x.g 4000 M1), (rt, aI x.g 8 (zup (zup (zup tt (4 * q) kind) ((4 * q) + 1) wa) ((4 * q) + 3) (-1))), (rk, aI x.g 32 kk), (rx, aI x.g 32 xk)]) [0, 1, 2, 3, 4] [0, 1, 2, 3, 4, 5, 6, 7, 8] rfl rfl (by decide) rfl ?_
          exact J85 1 (by omega)
    refine j_norm (lv' := [(0, .ref n0), (1, .int (iI q)), (2, .int (iI kind)), (3, .int (iI bi)), (6, .int (iI 0))]) (st' := []) (ws' := [(n0, oX12 th dp my sm st sz mo ms yb hpk pkr rt rk rx hsh si gt va vn wd wa re ua pk3 px3 bp3 mk b26 pl cd rn rch rtn rdp rki rea rby rsh), (va, aI x.g 400 val), (yb, aI x.g 4 oc), (re, aL x.g 400 rs3), (ua, aL x.g 400 U3), (mk, aI x.g 4000 M26), (rt, aI x.g 8 (zup (zup (zup tt (4 * q) kind) ((4 * q) + 1) wa) ((4 * q) + 3) (-1))), (rk, aI x.g 32 kk), (rx, aI x.g 32 xk)]) [3, 4, 5, 2, 0] [0, 1, 2, 3, 4, 5, 6, 7, 8] rfl rfl (by decide) rfl ?_
    exact L71 _ 0 b26 M26 ⟨by decide, by omega, by show b26 = b26 + ((0 : Nat) : Int); omega, wrote_nil h26.2.1.1, h26.2.2⟩ (Nat.lt_succ_self _)

set_option maxHeartbeats 4000000 in
set_option maxRecDepth 100000 in
theorem C_X12_price (l : Launch) (g : GG) (n0 my sm st yb pkr rt rk rx si gt va re ua mk rki rea rby : Nat) (th dp sz mo ms hpk hsh vn wd wa pkk pxx bp bi pl cd rn rch rtn rdp rsh : Int) (ch kind : Int) (cn ss val oc rs U : Int → Int) (hcn : (0 ≤ cn 0 ∧ cn 0 ≤ 400) ∧ (0 ≤ cn 1 ∧ cn 1 ≤ 400)) (hc : inR ch) (hk : inR kind) (hdp : 1 ≤ dp ∧ dp ≤ 16) (hf : ∀ j, 0 ≤ j → (0 ≤ ch ∧ ch < 2) → j < cn ch → -32768 ≤ ss (400 * ch + j) ∧ ss (400 * ch + j) < 32768) (hoo : 0 ≤ mo ∧ mo ≤ 4) (hos : 0 ≤ ms ∧ ms ≤ 15) (hcf : cfOk oc) : Ctr l g yX12_price cX12_price 5 (some .int) 5 150 0 0 [.ref n0, .int (iI ch), .int (iI kind)] [(n0, oX12 th dp my sm st sz mo ms yb hpk pkr rt rk rx hsh si gt va vn wd wa re ua pkk pxx bp mk bi pl cd rn rch rtn rdp rki rea rby rsh), (my, aI g 2 cn), (sm, aI g 800 ss), (va, aI g 400 val), (yb, aI g 4 oc), (re, aL g 400 rs), (ua, aL g 400 U)] (fun vv ww => ∃ (r vn2 wd2 wa2 bp2 pk2 px2 : Int) (v2 rs2 U2 : Int → Int), vv = some (.int (iI r)) ∧ ww = [(n0, oX12 0 dp my sm st sz mo ms yb hpk pkr rt rk rx hsh si gt va vn2 wd2 wa2 re ua pk2 px2 bp2 mk bi pl cd rn rch rtn rdp rki rea rby rsh), (my, aI g 2 cn), (sm, aI g 800 ss), (va, aI g 400 v2), (yb, aI g 4 oc), (re, aL g 400 rs2), (ua, aL g 400 U2)] ∧ ((¬ (0 ≤ ch ∧ ch < 2) ∨ ¬ (0 ≤ kind ∧ kind < 8) ∨ cn ch = 0) → r = -2) ∧ (¬ (¬ (0 ≤ ch ∧ ch < 2) ∨ ¬ (0 ≤ kind ∧ kind < 8) ∨ cn ch = 0) → prA (fun j => ss (400 * ch + j)) (cn ch) dp mo ms oc kind r)) := by
  refine Ctr.of [(0, .ref n0), (1, .int (iI ch)), (2, .int (iI kind))] (by decide) (Nat.le_of_ble_eq_true rfl) rfl ?_
  intro x hxl hxg jb jr hin
  subst hxl; subst hxg
  refine j_aload_n jb dX12_price_0 0 rfl ?_
  refine j_iconst jb dX12_price_1 ?_
  refine j_put (ws' := [(n0, oX12 0 dp my sm st sz mo ms yb hpk pkr rt rk rx hsh si gt va vn wd wa re ua pkk pxx bp mk bi pl cd rn rch rtn rdp rki rea rby rsh), (my, aI x.g 2 cn), (sm, aI x.g 800 ss), (va, aI x.g 400 val), (yb, aI x.g 4 oc), (re, aL x.g 400 rs), (ua, aL x.g 400 U)]) jb f_X12_1 w_X12_0 rfl dX12_price_2 0 rfl rfl rfl (Nat.le_of_ble_eq_true rfl) rfl ?_
  refine j_iload_n jb dX12_price_5 1 rfl ?_
  refine j_i2l jb dX12_price_6 (by omega) ?_
  refine j_lconst (z := 0) jb dX12_price_7 rfl ?_
  refine j_lconst (z := 1) jb dX12_price_8 rfl ?_
  refine j_callS (wr := [(n0, oX12 0 dp my sm st sz mo ms yb hpk pkr rt rk rx hsh si gt va vn wd wa re ua pkk pxx bp mk bi pl cd rn rch rtn rdp rki rea rby rsh), (my, aI x.g 2 cn), (sm, aI x.g 800 ss), (va, aI x.g 400 val), (yb, aI x.g 4 oc), (re, aL x.g 400 rs), (ua, aL x.g 400 U)]) jb k_X12_in t_X12_in l_X12_72 (C_X12_in x.l x.g ch 0 1 (by omega) (by omega) (by omega)) [] [0, 1, 2, 3, 4, 5, 6] (by decide) rfl rfl (by decide) (by decide) rfl rfl (Nat.le_of_ble_eq_true rfl) (by decide) dX12_price_9 (fun v w hp => ?_)
  obtain ⟨rfl, rfl⟩ := hp
  refine j_norm (lv' := [(0, .ref n0), (1, .int (iI ch)), (2, .int (iI kind))]) (st' := [.int (iI (b2i (0 ≤ ch ∧ ch ≤ 1)))]) (ws' := [(n0, oX12 0 dp my sm st sz mo ms yb hpk pkr rt rk rx hsh si gt va vn wd wa re ua pkk pxx bp mk bi pl cd rn rch rtn rdp rki rea rby rsh), (my, aI x.g 2 cn), (sm, aI x.g 800 ss), (va, aI x.g 400 val), (yb, aI x.g 4 oc), (re, aL x.g 400 rs), (ua, aL x.g 400 U)]) [0, 1, 2] [0, 1, 2, 3, 4, 5, 6] rfl rfl (by decide) rfl ?_
  refine j_ifb_eq (tgt := 36) jb dX12_price_12 (by decide) (fun c_12 => ?_) (fun c_12 => ?_)
  · skip
    refine j_bipush jb dX12_price_36 (by decide) ?_
    refine j_norm (lv' := []) (st' := [.int (iI (-2))]) (ws' := [(n0, oX12 0 dp my sm st sz mo ms yb hpk pkr rt rk rx hsh si gt va vn wd wa re ua pkk pxx bp mk bi pl cd rn rch rtn rdp rki rea rby rsh), (my, aI x.g 2 cn), (sm, aI x.g 800 ss), (va, aI x.g 400 val), (yb, aI x.g 4 oc), (re, aL x.g 400 rs), (ua, aL x.g 400 U)]) [] [0, 1, 2, 3, 4, 5, 6] rfl rfl (by decide) rfl ?_
    exact j_iret jb jr dX12_price_38 ⟨_, _, _, _, _, _, _, _, _, _, rfl, rfl, (by have hb : (¬ (0 ≤ ch ∧ ch < 2) ∨ ¬ (0 ≤ kind ∧ kind < 8) ∨ cn ch = 0) := (by omega); exact ⟨fun _ => rfl, fun z => absurd hb z⟩)⟩
  · skip
    refine j_iload_n jb dX12_price_15 2 rfl ?_
    refine j_i2l jb dX12_price_16 (by omega) ?_
    refine j_lconst (z := 0) jb dX12_price_17 rfl ?_
    refine j_ldc2 (z := 7) jb q_X12_139 rfl dX12_price_18 ?_
    refine j_callS (wr := [(n0, oX12 0 dp my sm st sz mo ms yb hpk pkr rt rk rx hsh si gt va vn wd wa re ua pkk pxx bp mk bi pl cd rn rch rtn rdp rki rea rby rsh), (my, aI x.g 2 cn), (sm, aI x.g 800 ss), (va, aI x.g 400 val), (yb, aI x.g 4 oc), (re, aL x.g 400 rs), (ua, aL x.g 400 U)]) jb k_X12_in t_X12_in l_X12_72 (C_X12_in x.l x.g kind 0 7 (by omega) (by omega) (by omega)) [] [0, 1, 2, 3, 4, 5, 6] (by decide) rfl rfl (by decide) (by decide) rfl rfl (Nat.le_of_ble_eq_true rfl) (by decide) dX12_price_21 (fun v w hp => ?_)
    obtain ⟨rfl, rfl⟩ := hp
    refine j_norm (lv' := [(0, .ref n0), (1, .int (iI ch)), (2, .int (iI kind))]) (st' := [.int (iI (b2i (0 ≤ kind ∧ kind ≤ 7)))]) (ws' := [(n0, oX12 0 dp my sm st sz mo ms yb hpk pkr rt rk rx hsh si gt va vn wd wa re ua pkk pxx bp mk bi pl cd rn rch rtn rdp rki rea rby rsh), (my, aI x.g 2 cn), (sm, aI x.g 800 ss), (va, aI x.g 400 val), (yb, aI x.g 4 oc), (re, aL x.g 400 rs), (ua, aL x.g 400 U)]) [0, 1, 2] [0, 1, 2, 3, 4, 5, 6] rfl rfl (by decide) rfl ?_
    refine j_ifb_eq (tgt := 36) jb dX12_price_24 (by decide) (fun c_24 => ?_) (fun c_24 => ?_)
    · skip
      refine j_bipush jb dX12_price_36 (by decide) ?_
      refine j_norm (lv' := []) (st' := [.int (iI (-2))]) (ws' := [(n0, oX12 0 dp my sm st sz mo ms yb hpk pkr rt rk rx hsh si gt va vn wd wa re ua pkk pxx bp mk bi pl cd rn rch rtn rdp rki rea rby rsh), (my, aI x.g 2 cn), (sm, aI x.g 800 ss), (va, aI x.g 400 val), (yb, aI x.g 4 oc), (re, aL x.g 400 rs), (ua, aL x.g 400 U)]) [] [0, 1, 2, 3, 4, 5, 6] rfl rfl (by decide) rfl ?_
      exact j_iret jb jr dX12_price_38 ⟨_, _, _, _, _, _, _, _, _, _, rfl, rfl, (by have hb : (¬ (0 ≤ ch ∧ ch < 2) ∨ ¬ (0 ≤ kind ∧ kind < 8) ∨ cn ch = 0) := (by omega); exact ⟨fun _ => rfl, fun z => absurd hb z⟩)⟩
    · skip
      have hch : ch = 0 ∨ ch = 1 := by omega
      have hci : 0 ≤ cn ch ∧ cn ch ≤ 400 := by (rcases hch with e | e; { rw [e]; exact hcn.1 }; { rw [e]; exact hcn.2 })
      refine j_aload_n jb dX12_price_27 0 rfl ?_
      refine j_get jb f_X12_16 dX12_price_28 0 rfl rfl ?_
      refine j_iload_n jb dX12_price_31 1 rfl ?_
      refine j_iald jb dX12_price_32 1 rfl (by omega) (by decide) ?_
      refine j_if_ne (tgt := 39) jb dX12_price_33 (by decide) (by omega) (fun c_33 => ?_) (fun c_33 => ?_)
      · skip
        have hnb : ¬ (¬ (0 ≤ ch ∧ ch < 2) ∨ ¬ (0 ≤ kind ∧ kind < 8) ∨ cn ch = 0) := by omega
        refine j_aload_n jb dX12_price_39 0 rfl ?_
        refine j_aload_n jb dX12_price_40 0 rfl ?_
        refine j_get jb f_X12_16 dX12_price_41 0 rfl rfl ?_
        refine j_iload_n jb dX12_price_44 1 rfl ?_
        refine j_iald jb dX12_price_45 1 rfl (by omega) (by decide) ?_
        refine j_put (ws' := [(n0, oX12 0 dp my sm st sz mo ms yb hpk pkr rt rk rx hsh si gt va (cn ch) wd wa re ua pkk pxx bp mk bi pl cd rn rch rtn rdp rki rea rby rsh), (my, aI x.g 2 cn), (sm, aI x.g 800 ss), (va, aI x.g 400 val), (yb, aI x.g 4 oc), (re, aL x.g 400 rs), (ua, aL x.g 400 U)]) jb f_X12_92 w_X12_18 rfl dX12_price_46 0 rfl rfl rfl (Nat.le_of_ble_eq_true rfl) rfl ?_
        refine j_iconst jb dX12_price_49 ?_
        refine j_istore_n (lv' := [(3, .int (iI 0)), (0, .ref n0), (1, .int (iI ch)), (2, .int (iI kind))]) jb dX12_price_50 rfl (by decide) rfl ?_
        have L51 : ∀ (fu : Nat) (i : Int) (v1 : Int → Int), (0 ≤ i ∧ i ≤ cn ch ∧ ∀ j, 0 ≤ j → j < i → v1 j = ss (400 * ch + j)) → (cn ch - i).toNat < fu → JW x 0 0 51 [(0, .ref n0), (1, .int (iI ch)), (2, .int (iI kind)), (3, .int (iI i))] [] [(n0, oX12 0 dp my sm st sz mo ms yb hpk pkr rt rk rx hsh si gt va (cn ch) wd wa re ua pkk pxx bp mk bi pl cd rn rch rtn rdp rki rea rby rsh), (my, aI x.g 2 cn), (sm, aI x.g 800 ss), (va, aI x.g 400 v1), (yb, aI x.g 4 oc), (re, aL x.g 400 rs), (ua, aL x.g 400 U)] := by
          intro fu
          induction fu with
          | zero => intro i v1 _ hm; exact absurd hm (by omega)
          | succ fu ih =>
            intro i v1 ⟨hi1, hi2, hi3⟩ hm51
            have ih51 := ih
            clear ih
            refine j_iload_n jb dX12_price_51 3 rfl ?_
            refine j_aload_n jb dX12_price_52 0 rfl ?_
            refine j_get jb f_X12_92 dX12_price_53 0 rfl rfl ?_
            refine j_icmp_ge (tgt := 83) jb dX12_price_56 (by decide) (by omega) (by omega) (fun c_56 => ?_) (fun c_56 => ?_)
            · skip
              refine j_aload_n jb dX12_price_83 0 rfl ?_
              refine j_aload_n jb dX12_price_84 0 rfl ?_
              refine j_get jb f_X12_13 dX12_price_85 0 rfl rfl ?_
              refine j_callV (wr := [(my, aI x.g 2 cn), (sm, aI x.g 800 ss), (yb, aI x.g 4 oc), (re, aL x.g 400 rs), (ua, aL x.g 400 U)]) jb k_X12_takeOut i_X12_takeOut s_X12_takeOut l_X12_159 (C_X12_takeOut x.l x.g n0 my sm st yb pkr rt rk rx si gt va re ua mk rki rea rby 0 dp sz mo ms hpk hsh (cn ch) wd wa pkk pxx bp bi pl cd rn rch rtn rdp rsh dp v1 (by omega) (by omega) (fun j a b => by rw [hi3 j a (by omega)]; have := hf j a (by omega) b; omega)) 0 14 rfl rfl rfl [0, 3] [1, 2, 4, 5, 6] (by decide) rfl rfl (by decide) (by decide) rfl rfl (Nat.le_of_ble_eq_true rfl) (by decide) dX12_price_88 (fun v w hp => ?_)
              obtain ⟨wa3, wd3, v3, rfl, rfl, h88⟩ := hp
              refine j_norm (lv' := [(0, .ref n0), (1, .int (iI ch)), (2, .int (iI kind)), (3, .int (iI i))]) (st' := []) (ws' := [(n0, oX12 0 dp my sm st sz mo ms yb hpk pkr rt rk rx hsh si gt va (cn ch) wd3 wa3 re ua pkk pxx bp mk bi pl cd rn rch rtn rdp rki rea rby rsh), (my, aI x.g 2 cn), (sm, aI x.g 800 ss), (va, aI x.g 400 v3), (yb, aI x.g 4 oc), (re, aL x.g 400 rs), (ua, aL x.g 400 U)]) [0, 1, 2, 3] [5, 0, 1, 6, 2, 3, 4] rfl rfl (by decide) rfl ?_
              have hen : eqOn v1 (fun j => ss (400 * ch + j)) 0 (cn ch) := fun j a b => hi3 j a (by omega)
              have hve : eqOn v3 (sv (fun j => ss (400 * ch + j)) wa3) 0 (cn ch) := fun j a b => by (rw [h88.2.2.2 j a b, hen j a b]; rfl)
              have hW : isW (orF (fun j => ss (400 * ch + j)) (cn ch).toNat) dp wa3 := by (rw [← orF_cg (cn ch).toNat (fun j a b => hen j a (by omega))]; exact h88.1)
              have hv9 : vOk v3 (cn ch) := vOk_strip (f := (fun j => ss (400 * ch + j))) (fun j a b => by have := hf j a (by omega) b; show -65536 ≤ ss (400 * ch + j) ∧ ss (400 * ch + j) < 65536; omega) h88.2.1.1 hve
              have hpe : price v3 (cn ch) wd3 mo ms oc kind = price (sv (fun j => ss (400 * ch + j)) wa3) (cn ch) (dp - wa3) mo ms oc kind := by (rw [h88.2.2.1]; exact price_congr (by omega) hoo.1 (by omega) hve)
              refine j_aload_n jb dX12_price_91 0 rfl ?_
              refine j_iload_n jb dX12_price_92 2 rfl ?_
              refine j_callV (wr := [(my, aI x.g 2 cn), (sm, aI x.g 800 ss)]) jb k_X12_bitsOf i_X12_bitsOf s_X12_bitsOf l_X12_156 (C_X12_bitsOf x.l x.g n0 my sm st yb pkr rt rk rx si gt va re ua mk rki rea rby 0 dp sz mo ms hpk hsh (cn ch) wd3 wa3 pkk pxx bp bi pl cd rn rch rtn rdp rsh kind v3 oc rs U (by omega) (by omega) hv9 (by omega) (by omega) hcf (by omega)) 0 14 rfl rfl rfl [0, 3, 4, 5, 6] [1, 2] (by decide) rfl rfl (by decide) (by decide) rfl rfl (Nat.le_of_ble_eq_true rfl) (by decide) dX12_price_93 (fun v w hp => ?_)
              obtain ⟨rb, bp3, pk3, px3, rs3, U3, rfl, rfl, h93⟩ := hp
              refine j_norm (lv' := [(0, .ref n0), (1, .int (iI ch)), (2, .int (iI kind)), (3, .int (iI i))]) (st' := [.long (lI rb)]) (ws' := [(n0, oX12 0 dp my sm st sz mo ms yb hpk pkr rt rk rx hsh si gt va (cn ch) wd3 wa3 re ua pk3 px3 bp3 mk bi pl cd rn rch rtn rdp rki rea rby rsh), (my, aI x.g 2 cn), (sm, aI x.g 800 ss), (va, aI x.g 400 v3), (yb, aI x.g 4 oc), (re, aL x.g 400 rs3), (ua, aL x.g 400 U3)]) [0, 1, 2, 3] [2, 0, 1, 3, 4, 5, 6] rfl rfl (by decide) rfl ?_
              have hri := isPr_in (show 1 ≤ cn ch ∧ cn ch ≤ 400 by omega) (show 0 ≤ wd3 ∧ wd3 ≤ 17 by omega) hoo (show 0 ≤ kind ∧ kind ≤ 7 by omega) h93.1
              have hpr := h93.1
              rw [hpe] at hpr
              refine j_lstore_n (lv' := [(3, .long (lI rb)), (0, .ref n0), (1, .int (iI ch)), (2, .int (iI kind))]) jb dX12_price_96 rfl (by decide) rfl ?_
              refine j_lload_n jb dX12_price_97 0 rfl ?_
              refine j_ldc2 (z := 1000000000) jb q_X12_115 rfl dX12_price_98 ?_
              refine j_lcmp_lt (tgt := 110) jb dX12_price_101 dX12_price_102 (by decide) (by omega) (by omega) (fun c_101 => ?_) (fun c_101 => ?_)
              · skip
                refine j_lload_n jb dX12_price_110 0 rfl ?_
                refine j_l2i jb dX12_price_111 ?_
                refine j_norm (lv' := []) (st' := [.int (iI rb)]) (ws' := [(n0, oX12 0 dp my sm st sz mo ms yb hpk pkr rt rk rx hsh si gt va (cn ch) wd3 wa3 re ua pk3 px3 bp3 mk bi pl cd rn rch rtn rdp rki rea rby rsh), (my, aI x.g 2 cn), (sm, aI x.g 800 ss), (va, aI x.g 400 v3), (yb, aI x.g 4 oc), (re, aL x.g 400 rs3), (ua, aL x.g 400 U3)]) [] [0, 1, 2, 3, 4, 5, 6] rfl rfl (by decide) rfl ?_
                exact j_iret jb jr dX12_price_112 ⟨_, _, _, _, _, _, _, _, _, _, rfl, rfl, (by refine ⟨fun z => absurd z hnb, fun _ => ⟨wa3, hW, ?_⟩⟩; rcases hpr with y | y; { first | exact Or.inl ⟨y.1, rfl⟩ | exact absurd y.2 (by omega) }; { have := isPr_lt (show 1 ≤ cn ch ∧ cn ch ≤ 400 by omega) (show 0 ≤ wd3 ∧ wd3 ≤ 17 by omega) hoo (show 0 ≤ kind ∧ kind ≤ 7 by omega) h93.1 (by rw [hpe]; exact y.1); first | exact Or.inr ⟨y.1, y.2⟩ | exact absurd this (by omega) })⟩
              · skip
                refine j_bipush jb dX12_price_105 (by decide) ?_
                refine j_goto (tgt := 112) jb dX12_price_107 (by decide) ?_
                refine j_norm (lv' := []) (st' := [.int (iI (-3))]) (ws' := [(n0, oX12 0 dp my sm st sz mo ms yb hpk pkr rt rk rx hsh si gt va (cn ch) wd3 wa3 re ua pk3 px3 bp3 mk bi pl cd rn rch rtn rdp rki rea rby rsh), (my, aI x.g 2 cn), (sm, aI x.g 800 ss), (va, aI x.g 400 v3), (yb, aI x.g 4 oc), (re, aL x.g 400 rs3), (ua, aL x.g 400 U3)]) [] [0, 1, 2, 3, 4, 5, 6] rfl rfl (by decide) rfl ?_
                exact j_iret jb jr dX12_price_112 ⟨_, _, _, _, _, _, _, _, _, _, rfl, rfl, (by refine ⟨fun z => absurd z hnb, fun _ => ⟨wa3, hW, ?_⟩⟩; rcases hpr with y | y; { first | exact Or.inl ⟨y.1, rfl⟩ | exact absurd y.2 (by omega) }; { have := isPr_lt (show 1 ≤ cn ch ∧ cn ch ≤ 400 by omega) (show 0 ≤ wd3 ∧ wd3 ≤ 17 by omega) hoo (show 0 ≤ kind ∧ kind ≤ 7 by omega) h93.1 (by rw [hpe]; exact y.1); first | exact Or.inr ⟨y.1, y.2⟩ | exact absurd this (by omega) })⟩
            · skip
              refine j_aload_n jb dX12_price_59 0 rfl ?_
              refine j_get jb f_X12_47 dX12_price_60 0 rfl rfl ?_
              refine j_iload_n jb dX12_price_63 3 rfl ?_
              refine j_aload_n jb dX12_price_64 0 rfl ?_
              refine j_get jb f_X12_20 dX12_price_65 0 rfl rfl ?_
              refine j_sipush jb dX12_price_68 (by decide) ?_
              refine j_iload_n jb dX12_price_71 1 rfl ?_
              refine j_imul jb dX12_price_72 ?_
              refine j_iload_n jb dX12_price_73 3 rfl ?_
              refine j_iadd jb dX12_price_74 ?_
              refine j_iald jb dX12_price_75 2 rfl (by omega) (by decide) ?_
              refine j_iast (ws' := [(n0, oX12 0 dp my sm st sz mo ms yb hpk pkr rt rk rx hsh si gt va (cn ch) wd wa re ua pkk pxx bp mk bi pl cd rn rch rtn rdp rki rea rby rsh), (my, aI x.g 2 cn), (sm, aI x.g 800 ss), (va, aI x.g 400 (zup v1 i (ss ((400 * ch) + i)))), (yb, aI x.g 4 oc), (re, aL x.g 400 rs), (ua, aL x.g 400 U)]) jb dX12_price_76 3 rfl (by omega) (by decide) rfl ?_
              refine j_iinc (lv' := [(3, .int (iI (i + 1))), (0, .ref n0), (1, .int (iI ch)), (2, .int (iI kind))]) jb dX12_price_77 3 rfl (by decide) rfl ?_
              refine j_goto (tgt := 51) jb dX12_price_80 (by decide) ?_
              refine j_norm (lv' := [(0, .ref n0), (1, .int (iI ch)), (2, .int (iI kind)), (3, .int (iI (i + 1)))]) (st' := []) (ws' := [(n0, oX12 0 dp my sm st sz mo ms yb hpk pkr rt rk rx hsh si gt va (cn ch) wd wa re ua pkk pxx bp mk bi pl cd rn rch rtn rdp rki rea rby rsh), (my, aI x.g 2 cn), (sm, aI x.g 800 ss), (va, aI x.g 400 (zup v1 i (ss ((400 * ch) + i)))), (yb, aI x.g 4 oc), (re, aL x.g 400 rs), (ua, aL x.g 400 U)]) [1, 2, 3, 0] [0, 1, 2, 3, 4, 5, 6] rfl rfl (by decide) rfl ?_
              exact ih51 (i + 1) (zup v1 i (ss ((400 * ch) + i))) ⟨by omega, by omega, fun j a b => by (by_cases e : j = i); { rw [e, zup_s] }; { rw [zup_n e]; exact hi3 j a (by omega) }⟩ (by omega)
        refine j_norm (lv' := [(0, .ref n0), (1, .int (iI ch)), (2, .int (iI kind)), (3, .int (iI 0))]) (st' := []) (ws' := [(n0, oX12 0 dp my sm st sz mo ms yb hpk pkr rt rk rx hsh si gt va (cn ch) wd wa re ua pkk pxx bp mk bi pl cd rn rch rtn rdp rki rea rby rsh), (my, aI x.g 2 cn), (sm, aI x.g 800 ss), (va, aI x.g 400 val), (yb, aI x.g 4 oc), (re, aL x.g 400 rs), (ua, aL x.g 400 U)]) [1, 2, 3, 0] [0, 1, 2, 3, 4, 5, 6] rfl rfl (by decide) rfl ?_
        exact L51 _ 0 val ⟨by decide, by omega, fun j a b => by omega⟩ (Nat.lt_succ_self _)
      · skip
        refine j_bipush jb dX12_price_36 (by decide) ?_
        refine j_norm (lv' := []) (st' := [.int (iI (-2))]) (ws' := [(n0, oX12 0 dp my sm st sz mo ms yb hpk pkr rt rk rx hsh si gt va vn wd wa re ua pkk pxx bp mk bi pl cd rn rch rtn rdp rki rea rby rsh), (my, aI x.g 2 cn), (sm, aI x.g 800 ss), (va, aI x.g 400 val), (yb, aI x.g 4 oc), (re, aL x.g 400 rs), (ua, aL x.g 400 U)]) [] [0, 1, 2, 3, 4, 5, 6] rfl rfl (by decide) rfl ?_
        exact j_iret jb jr dX12_price_38 ⟨_, _, _, _, _, _, _, _, _, _, rfl, rfl, (by have hb : (¬ (0 ≤ ch ∧ ch < 2) ∨ ¬ (0 ≤ kind ∧ kind < 8) ∨ cn ch = 0) := (by omega); exact ⟨fun _ => rfl, fun z => absurd hb z⟩)⟩

