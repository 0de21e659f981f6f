set_option maxHeartbeats 4000000 in
set_option maxRecDepth 100000 in
theorem C_X2_writeForetold_f (l : Launch) (g : GG) (h0 c0 a0 s0 r0 v0 w0 x0 P0 t0 hv h1 g0 gk gx xc : Nat) (n ch tn bi sb vn b w len fa pos ws gbi p kind fo fs : Int) (v B K X fc : Int → Int) (hn : 1 ≤ n ∧ n ≤ 400) (hb : 0 ≤ b ∧ b ≤ 17) (hv9 : vOk v n) (hB : isBytes B) (hp4 : 0 ≤ p ∧ p ≤ 4) (hkx : kxIn K X (2 ^ p.toNat)) (hpos : 0 ≤ pos) (hk : 2 ≤ kind ∧ kind ≤ 6) (hon : (kind - 2) ≤ n) (hff : (kind - 2) ≤ (n / 2 ^ p.toNat) ∧ n = 2 ^ p.toNat * (n / 2 ^ p.toNat)) (hU : allU (rests v (cFix (kind - 2)) (kind - 2) 0) (kind - 2) n) (hroom : pos + ((foreB v (rests v (cFix (kind - 2)) (kind - 2) 0) n (kind - 2) b p K X)).length ≤ 19200) : Ctr l g yX2_writeForetold cX2_writeForetold 6 none 4 160 0 0 [.ref h0, .ref g0] [(h0, oX2 c0 a0 n ch tn bi s0 r0 sb), (c0, oX7 v0 w0 x0 P0 t0), (v0, oX10 hv vn b w), (hv, aI g 400 v), (s0, oX0 h1 len fa pos), (h1, aI g 2400 B), (g0, oX8 gk gx kind ws gbi p), (gk, aI g 16 K), (gx, aI g 16 X), (x0, oX1 xc fo fs), (xc, aI g 4 fc)] (fun vv ww => ∃ (B2 c2 : Int → Int) (pos2 : Int), vv = none ∧ ww = [(h0, oX2 c0 a0 n ch tn bi s0 r0 sb), (c0, oX7 v0 w0 x0 P0 t0), (v0, oX10 hv vn b w), (hv, aI g 400 v), (s0, oX0 h1 len fa pos2), (h1, aI g 2400 B2), (g0, oX8 gk gx kind ws gbi p), (gk, aI g 16 K), (gx, aI g 16 X), (x0, oX1 xc (kind - 2) 0), (xc, aI g 4 c2)] ∧ wrote 2400 B pos (foreB v (rests v (cFix (kind - 2)) (kind - 2) 0) n (kind - 2) b p K X) B2 ∧ pos2 = pos + ((foreB v (rests v (cFix (kind - 2)) (kind - 2) 0) n (kind - 2) b p K X)).length) := by
  refine Ctr.of [(0, .ref h0), (1, .ref g0)] (by decide) (Nat.le_of_ble_eq_true rfl) rfl ?_
  intro x hxl hxg jb jr hin
  subst hxl; subst hxg
  have q1 := pw_pos p
  have q2 : (2 : Int) ^ p.toNat ≤ 16 := by (have := pw_le (k := p) 4 hp4.2; rw [show (2 : Int) ^ 4 = 16 by decide] at this; exact this)
  have he0 : 0 ≤ (n / 2 ^ p.toNat) := by omega
  have hlen : ((foreB v (rests v (cFix (kind - 2)) (kind - 2) 0) n (kind - 2) b p K X)).length = ((valsB v b (kind - 2).toNat).length + 3 + (partsB (rests v (cFix (kind - 2)) (kind - 2) 0) (kind - 2) (n / 2 ^ p.toNat) K X (2 ^ p.toNat)).length) := by (unfold foreB; simp only [List.length_append, nb_len])
  have hpn : (2 : Int) ^ p.toNat = ((2 ^ p.toNat : Nat) : Int) := (Int.natCast_pow 2 _).symm
  have hpt : ((2 : Int) ^ p.toNat).toNat = 2 ^ p.toNat := pw_nat rfl
  refine j_aload_n jb dX2_writeForetold_0 0 rfl ?_
  refine j_get jb f_X2_23 dX2_writeForetold_1 0 rfl rfl ?_
  refine j_aload_n jb dX2_writeForetold_4 1 rfl ?_
  refine j_get jb f_X2_110 dX2_writeForetold_5 6 rfl rfl ?_
  refine j_callV (wr := [(h0, oX2 c0 a0 n ch tn bi s0 r0 sb), (v0, oX10 hv vn b w), (hv, aI x.g 400 v), (s0, oX0 h1 len fa pos), (h1, aI x.g 2400 B), (g0, oX8 gk gx kind ws gbi p), (gk, aI x.g 16 K), (gx, aI x.g 16 X)]) jb k_X7_foretellingOf i_X7_foretellingOf s_X7_foretellingOf l_X2_129 (C_X7_foretellingOf_f x.l x.g c0 v0 w0 x0 P0 t0 xc kind fo fs fc (by omega)) 1 9 rfl rfl rfl [1, 9, 10] [0, 2, 3, 4, 5, 6, 7, 8] (by decide) rfl rfl (by decide) (by decide) rfl rfl (Nat.le_of_ble_eq_true rfl) (by decide) dX2_writeForetold_8 (fun v w hp => ?_)
  obtain ⟨c2, rfl, rfl, hc2⟩ := hp
  refine j_norm (lv' := [(0, .ref h0), (1, .ref g0)]) (st' := [.ref x0]) (ws' := [(h0, oX2 c0 a0 n ch tn bi s0 r0 sb), (c0, oX7 v0 w0 x0 P0 t0), (v0, oX10 hv vn b w), (hv, aI x.g 400 v), (s0, oX0 h1 len fa pos), (h1, aI x.g 2400 B), (g0, oX8 gk gx kind ws gbi p), (gk, aI x.g 16 K), (gx, aI x.g 16 X), (x0, oX1 xc (kind - 2) 0), (xc, aI x.g 4 c2)]) [0, 1] [0, 8, 1, 2, 3, 4, 5, 6, 7, 9, 10] rfl rfl (by decide) rfl ?_
  have hcg : rests v c2 (kind - 2) 0 = (rests v (cFix (kind - 2)) (kind - 2) 0) := rests_congr (fun j h1 h3 => hc2 j h1 (by omega))
  have hcf := cFix_ok (by omega) hc2
  refine j_astore_n (lv' := [(2, .ref x0), (0, .ref h0), (1, .ref g0)]) jb dX2_writeForetold_11 rfl (by decide) rfl ?_
  refine j_aload_n jb dX2_writeForetold_12 2 rfl ?_
  refine j_get jb f_X2_110 dX2_writeForetold_13 6 rfl rfl ?_
  refine j_bipush jb dX2_writeForetold_16 (by decide) ?_
  refine j_icmp_ne (tgt := 78) jb dX2_writeForetold_18 (by decide) (by omega) (by omega) (fun c_18 => ?_) (fun c_18 => ?_)
  · skip
    refine j_aload_n jb dX2_writeForetold_78 1 rfl ?_
    refine j_aload_n jb dX2_writeForetold_79 0 rfl ?_
    refine j_get jb f_X2_133 dX2_writeForetold_80 9 rfl rfl ?_
    refine j_callV (wr := [(g0, oX8 gk gx kind ws gbi p), (gk, aI x.g 16 K), (gx, aI x.g 16 X), (x0, oX1 xc (kind - 2) 0), (xc, aI x.g 4 c2)]) jb k_X2_writeValues i_X2_writeValues s_X2_writeValues l_X2_116 (C_X2_writeValues x.l x.g h0 c0 a0 s0 r0 v0 w0 x0 P0 t0 hv h1 n ch tn bi sb vn b w len fa pos v B (kind - 2) (by omega) hb hB (fun j h1 h2 => by have := hv9 j h1 (by omega); omega) (by omega)) 0 4 rfl rfl rfl [0, 1, 2, 3, 4, 5] [6, 7, 8, 9, 10] (by decide) rfl rfl (by decide) (by decide) rfl rfl (Nat.le_of_ble_eq_true rfl) (by decide) dX2_writeForetold_83 (fun v w hp => ?_)
    obtain ⟨B8, pos8, rfl, rfl, h83⟩ := hp
    refine j_norm (lv' := [(2, .ref x0), (0, .ref h0), (1, .ref g0)]) (st' := []) (ws' := [(h0, oX2 c0 a0 n ch tn bi s0 r0 sb), (c0, oX7 v0 w0 x0 P0 t0), (v0, oX10 hv vn b w), (hv, aI x.g 400 v), (s0, oX0 h1 len fa pos8), (h1, aI x.g 2400 B8), (g0, oX8 gk gx kind ws gbi p), (gk, aI x.g 16 K), (gx, aI x.g 16 X), (x0, oX1 xc (kind - 2) 0), (xc, aI x.g 4 c2)]) [0, 1, 2] [5, 6, 7, 8, 9, 10, 0, 1, 2, 3, 4] rfl rfl (by decide) rfl ?_
    refine j_aload_n jb dX2_writeForetold_86 1 rfl ?_
    refine j_get jb f_X2_27 dX2_writeForetold_87 0 rfl rfl ?_
    refine j_aload_n jb dX2_writeForetold_90 2 rfl ?_
    refine j_get jb f_X2_144 dX2_writeForetold_91 6 rfl rfl ?_
    refine j_iconst jb dX2_writeForetold_94 ?_
    refine j_callV (wr := [(h0, oX2 c0 a0 n ch tn bi s0 r0 sb), (c0, oX7 v0 w0 x0 P0 t0), (v0, oX10 hv vn b w), (hv, aI x.g 400 v), (g0, oX8 gk gx kind ws gbi p), (gk, aI x.g 16 K), (gx, aI x.g 16 X), (x0, oX1 xc (kind - 2) 0), (xc, aI x.g 4 c2)]) jb k_X0_write i_X0_write s_X0_write l_X2_83 (C_X0_write x.l x.g s0 h1 B8 len fa pos8 p 3 h83.1.1 (by omega) (by decide) (by omega)) 4 2 rfl rfl rfl [4, 5] [0, 1, 2, 3, 6, 7, 8, 9, 10] (by decide) rfl rfl (by decide) (by decide) rfl rfl (Nat.le_of_ble_eq_true rfl) (by decide) dX2_writeForetold_95 (fun v w hp => ?_)
    obtain ⟨B9, pos9, rfl, rfl, h95⟩ := hp
    refine j_norm (lv' := [(2, .ref x0), (0, .ref h0), (1, .ref g0)]) (st' := []) (ws' := [(h0, oX2 c0 a0 n ch tn bi s0 r0 sb), (c0, oX7 v0 w0 x0 P0 t0), (v0, oX10 hv vn b w), (hv, aI x.g 400 v), (s0, oX0 h1 len fa pos9), (h1, aI x.g 2400 B9), (g0, oX8 gk gx kind ws gbi p), (gk, aI x.g 16 K), (gx, aI x.g 16 X), (x0, oX1 xc (kind - 2) 0), (xc, aI x.g 4 c2)]) [0, 1, 2] [0, 1, 2, 3, 9, 10, 4, 5, 6, 7, 8] rfl rfl (by decide) rfl ?_
    refine j_aload_n jb dX2_writeForetold_98 1 rfl ?_
    refine j_get jb f_X2_37 dX2_writeForetold_99 0 rfl rfl ?_
    refine j_aload_n jb dX2_writeForetold_102 2 rfl ?_
    refine j_get jb f_X2_144 dX2_writeForetold_103 6 rfl rfl ?_
    refine j_ishr jb dX2_writeForetold_106 (by omega) (by omega) ?_
    refine j_istore_n (lv' := [(3, .int (iI (n / 2 ^ p.toNat))), (2, .ref x0), (0, .ref h0), (1, .ref g0)]) jb dX2_writeForetold_107 rfl (by decide) rfl ?_
    refine j_iconst jb dX2_writeForetold_108 ?_
    refine j_istore (lv' := [(4, .int (iI 0)), (3, .int (iI (n / 2 ^ p.toNat))), (2, .ref x0), (0, .ref h0), (1, .ref g0)]) jb dX2_writeForetold_109 (by decide) rfl ?_
    have L111 : ∀ (fu : Nat) (j q : Int) (B1 : Int → Int), (0 ≤ j ∧ j ≤ 2 ^ p.toNat ∧ q = pos9 + (partsB (rests v (cFix (kind - 2)) (kind - 2) 0) (kind - 2) (n / 2 ^ p.toNat) K X j.toNat).length ∧ wrote 2400 B9 pos9 (partsB (rests v (cFix (kind - 2)) (kind - 2) 0) (kind - 2) (n / 2 ^ p.toNat) K X j.toNat) B1) → (2 ^ p.toNat - j).toNat < fu → JW x 0 0 111 [(0, .ref h0), (1, .ref g0), (2, .ref x0), (3, .int (iI (n / 2 ^ p.toNat))), (4, .int (iI j))] [] [(h0, oX2 c0 a0 n ch tn bi s0 r0 sb), (c0, oX7 v0 w0 x0 P0 t0), (v0, oX10 hv vn b w), (hv, aI x.g 400 v), (s0, oX0 h1 len fa q), (h1, aI x.g 2400 B1), (g0, oX8 gk gx kind ws gbi p), (gk, aI x.g 16 K), (gx, aI x.g 16 X), (x0, oX1 xc (kind - 2) 0), (xc, aI x.g 4 c2)] := by
      intro fu
      induction fu with
      | zero => intro j q B1 _ hm; exact absurd hm (by omega)
      | succ fu ih =>
        intro j q B1 ⟨hi1, hi2, hi3, hi4⟩ hm111
        have ih111 := ih
        clear ih
        refine j_iload jb dX2_writeForetold_111 4 rfl ?_
        refine j_aload_n jb dX2_writeForetold_113 1 rfl ?_
        refine j_callV (wr := [(h0, oX2 c0 a0 n ch tn bi s0 r0 sb), (c0, oX7 v0 w0 x0 P0 t0), (v0, oX10 hv vn b w), (hv, aI x.g 400 v), (s0, oX0 h1 len fa q), (h1, aI x.g 2400 B1), (gk, aI x.g 16 K), (gx, aI x.g 16 X), (x0, oX1 xc (kind - 2) 0), (xc, aI x.g 4 c2)]) jb k_X8_countParts i_X8_countParts s_X8_countParts l_X2_147 (C_X8_countParts x.l x.g g0 gk gx kind ws gbi p (by omega)) 6 10 rfl rfl rfl [6] [0, 1, 2, 3, 4, 5, 7, 8, 9, 10] (by decide) rfl rfl (by decide) (by decide) rfl rfl (Nat.le_of_ble_eq_true rfl) (by decide) dX2_writeForetold_114 (fun v w hp => ?_)
        obtain ⟨cp, rfl, rfl, h114⟩ := hp
        refine j_norm (lv' := [(0, .ref h0), (1, .ref g0), (2, .ref x0), (3, .int (iI (n / 2 ^ p.toNat))), (4, .int (iI j))]) (st' := [.int (iI cp), .int (iI j)]) (ws' := [(h0, oX2 c0 a0 n ch tn bi s0 r0 sb), (c0, oX7 v0 w0 x0 P0 t0), (v0, oX10 hv vn b w), (hv, aI x.g 400 v), (s0, oX0 h1 len fa q), (h1, aI x.g 2400 B1), (g0, oX8 gk gx kind ws gbi p), (gk, aI x.g 16 K), (gx, aI x.g 16 X), (x0, oX1 xc (kind - 2) 0), (xc, aI x.g 4 c2)]) [0, 1, 2, 3, 4] [0, 1, 2, 3, 4, 5, 10, 6, 7, 8, 9] rfl rfl (by decide) rfl ?_
        rw [cparts_p hp4.1] at h114
        refine j_icmp_ge (tgt := 213) jb dX2_writeForetold_117 (by decide) (by omega) (by omega) (fun c_117 => ?_) (fun c_117 => ?_)
        · skip
          refine j_norm (lv' := []) (st' := []) (ws' := [(h0, oX2 c0 a0 n ch tn bi s0 r0 sb), (c0, oX7 v0 w0 x0 P0 t0), (v0, oX10 hv vn b w), (hv, aI x.g 400 v), (s0, oX0 h1 len fa q), (h1, aI x.g 2400 B1), (g0, oX8 gk gx kind ws gbi p), (gk, aI x.g 16 K), (gx, aI x.g 16 X), (x0, oX1 xc (kind - 2) 0), (xc, aI x.g 4 c2)]) [] [0, 1, 2, 3, 4, 5, 6, 7, 8, 9, 10] rfl rfl (by decide) rfl ?_
          exact j_vret jb jr dX2_writeForetold_213 ⟨_, _, _, rfl, rfl, (by have e2 : j.toNat = 2 ^ p.toNat := (by rw [← hpt]; congr 1; omega); rw [e2] at hi3 hi4; refine ⟨?_, by omega⟩; unfold foreB; exact wrote_app (wrote_app h83.1 h95.1 hpos (by omega)) hi4 hpos (by rw [List.length_append, nb_len]; omega))⟩
        · skip
          have hjp : j < 2 ^ p.toNat := by omega
          have hkj := hkx j hi1 hjp
          have hrm := partsB_room (U := (rests v (cFix (kind - 2)) (kind - 2) 0)) (o := (kind - 2)) (each := (n / 2 ^ p.toNat)) (K := K) (X := X) hi1 hjp
          rw [hpt] at hrm
          refine j_aload_n jb dX2_writeForetold_120 0 rfl ?_
          refine j_get jb f_X2_27 dX2_writeForetold_121 0 rfl rfl ?_
          refine j_aload_n jb dX2_writeForetold_124 1 rfl ?_
          refine j_get jb f_X2_150 dX2_writeForetold_125 6 rfl rfl ?_
          refine j_iload jb dX2_writeForetold_128 4 rfl ?_
          refine j_iald jb dX2_writeForetold_130 7 rfl (by omega) (by decide) ?_
          refine j_iconst jb dX2_writeForetold_131 ?_
          refine j_callV (wr := [(h0, oX2 c0 a0 n ch tn bi s0 r0 sb), (c0, oX7 v0 w0 x0 P0 t0), (v0, oX10 hv vn b w), (hv, aI x.g 400 v), (g0, oX8 gk gx kind ws gbi p), (gk, aI x.g 16 K), (gx, aI x.g 16 X), (x0, oX1 xc (kind - 2) 0), (xc, aI x.g 4 c2)]) jb k_X0_write i_X0_write s_X0_write l_X2_83 (C_X0_write x.l x.g s0 h1 B1 len fa q (K j) 4 hi4.1 (by omega) (by decide) (by (by_cases q : K j = 15); { have := kB_len15 (x := X j) q; omega }; { have := kB_lenk (x := X j) q; omega })) 4 2 rfl rfl rfl [4, 5] [0, 1, 2, 3, 6, 7, 8, 9, 10] (by decide) rfl rfl (by decide) (by decide) rfl rfl (Nat.le_of_ble_eq_true rfl) (by decide) dX2_writeForetold_132 (fun v w hp => ?_)
          obtain ⟨B4, p4, rfl, rfl, h132⟩ := hp
          refine j_norm (lv' := [(0, .ref h0), (1, .ref g0), (2, .ref x0), (3, .int (iI (n / 2 ^ p.toNat))), (4, .int (iI j))]) (st' := []) (ws' := [(h0, oX2 c0 a0 n ch tn bi s0 r0 sb), (c0, oX7 v0 w0 x0 P0 t0), (v0, oX10 hv vn b w), (hv, aI x.g 400 v), (s0, oX0 h1 len fa p4), (h1, aI x.g 2400 B4), (g0, oX8 gk gx kind ws gbi p), (gk, aI x.g 16 K), (gx, aI x.g 16 X), (x0, oX1 xc (kind - 2) 0), (xc, aI x.g 4 c2)]) [0, 1, 2, 3, 4] [0, 1, 2, 3, 9, 10, 4, 5, 6, 7, 8] rfl rfl (by decide) rfl ?_
          refine j_aload_n jb dX2_writeForetold_135 1 rfl ?_
          refine j_get jb f_X2_150 dX2_writeForetold_136 6 rfl rfl ?_
          refine j_iload jb dX2_writeForetold_139 4 rfl ?_
          refine j_iald jb dX2_writeForetold_141 7 rfl (by omega) (by decide) ?_
          refine j_bipush jb dX2_writeForetold_142 (by decide) ?_
          have J162 : ∀ (q6 : Int) (B6 : Int → Int), (wrote 2400 B1 q (kB (K j) (X j)) B6 ∧ q6 = q + (kB (K j) (X j)).length) → JW x 0 0 162 [(0, .ref h0), (1, .ref g0), (2, .ref x0), (3, .int (iI (n / 2 ^ p.toNat))), (4, .int (iI j))] [] [(h0, oX2 c0 a0 n ch tn bi s0 r0 sb), (c0, oX7 v0 w0 x0 P0 t0), (v0, oX10 hv vn b w), (hv, aI x.g 400 v), (s0, oX0 h1 len fa q6), (h1, aI x.g 2400 B6), (g0, oX8 gk gx kind ws gbi p), (gk, aI x.g 16 K), (gx, aI x.g 16 X), (x0, oX1 xc (kind - 2) 0), (xc, aI x.g 4 c2)] := by
            intro q6 B6 ⟨hw6, hp6⟩
            refine j_iload jb dX2_writeForetold_162 4 rfl ?_
            have J178 : ∀ (fr : Int), fr = pst (kind - 2) (n / 2 ^ p.toNat) j → JW x 0 0 178 [(0, .ref h0), (1, .ref g0), (2, .ref x0), (3, .int (iI (n / 2 ^ p.toNat))), (4, .int (iI j))] [.int (iI fr)] [(h0, oX2 c0 a0 n ch tn bi s0 r0 sb), (c0, oX7 v0 w0 x0 P0 t0), (v0, oX10 hv vn b w), (hv, aI x.g 400 v), (s0, oX0 h1 len fa q6), (h1, aI x.g 2400 B6), (g0, oX8 gk gx kind ws gbi p), (gk, aI x.g 16 K), (gx, aI x.g 16 X), (x0, oX1 xc (kind - 2) 0), (xc, aI x.g 4 c2)] := by
              intro fr hfr
              have hpr := prange (n := n) (o := (kind - 2)) (each := (n / 2 ^ p.toNat)) (c := 2 ^ p.toNat) (j := j) (by omega) hff.2 ⟨hi1, hjp⟩
              have hpe := pend (kind - 2) (n / 2 ^ p.toNat) j
              have htf : ((j + 1) * (n / 2 ^ p.toNat) - fr).toNat = (pln (kind - 2) (n / 2 ^ p.toNat) j).toNat := by (rw [hfr, ← hpe]; congr 1; omega)
              refine j_istore (lv' := [(5, .int (iI fr)), (0, .ref h0), (1, .ref g0), (2, .ref x0), (3, .int (iI (n / 2 ^ p.toNat))), (4, .int (iI j))]) jb dX2_writeForetold_178 (by decide) rfl ?_
              refine j_aload_n jb dX2_writeForetold_180 1 rfl ?_
              refine j_aload_n jb dX2_writeForetold_181 3 rfl ?_
              refine j_iload jb dX2_writeForetold_182 0 rfl ?_
              refine j_iload jb dX2_writeForetold_184 5 rfl ?_
              refine j_iconst jb dX2_writeForetold_186 ?_
              refine j_iadd jb dX2_writeForetold_187 ?_
              refine j_iload_n jb dX2_writeForetold_188 4 rfl ?_
              refine j_imul jb dX2_writeForetold_189 ?_
              refine j_aload_n jb dX2_writeForetold_190 2 rfl ?_
              refine j_get jb f_X2_150 dX2_writeForetold_191 6 rfl rfl ?_
              refine j_iload jb dX2_writeForetold_194 5 rfl ?_
              refine j_iald jb dX2_writeForetold_196 7 rfl (by omega) (by decide) ?_
              refine j_aload_n jb dX2_writeForetold_197 2 rfl ?_
              refine j_get jb f_X2_153 dX2_writeForetold_198 6 rfl rfl ?_
              refine j_iload jb dX2_writeForetold_201 5 rfl ?_
              refine j_iald jb dX2_writeForetold_203 8 rfl (by omega) (by decide) ?_
              refine j_callV (wr := [(g0, oX8 gk gx kind ws gbi p), (gk, aI x.g 16 K), (gx, aI x.g 16 X)]) jb k_X2_writeRests i_X2_writeRests s_X2_writeRests l_X2_156 (C_X2_writeRests x.l x.g h0 c0 a0 s0 r0 v0 w0 x0 P0 t0 hv h1 x0 xc n ch tn bi sb vn b w len fa q6 v B6 c2 (kind - 2) 0 fr ((j + 1) * (n / 2 ^ p.toNat)) (K j) (X j) (by omega) (by decide) hcf (fun i h1 h2 => hv9 i h1 (by omega)) (by omega) hkj.1 hkj.2 (fun i h1 h2 => by rw [hcg]; exact hU i (by omega) (by omega)) hw6.1 (by rw [hcg, htf, hfr]; omega)) 0 4 rfl rfl rfl [0, 1, 2, 3, 4, 5, 9, 10] [6, 7, 8] (by decide) rfl rfl (by decide) (by decide) rfl rfl (Nat.le_of_ble_eq_true rfl) (by decide) dX2_writeForetold_204 (fun v w hp => ?_)
              obtain ⟨B7, p7, rfl, rfl, h204⟩ := hp
              refine j_norm (lv' := [(5, .int (iI fr)), (0, .ref h0), (1, .ref g0), (2, .ref x0), (3, .int (iI (n / 2 ^ p.toNat))), (4, .int (iI j))]) (st' := []) (ws' := [(h0, oX2 c0 a0 n ch tn bi s0 r0 sb), (c0, oX7 v0 w0 x0 P0 t0), (v0, oX10 hv vn b w), (hv, aI x.g 400 v), (s0, oX0 h1 len fa p7), (h1, aI x.g 2400 B7), (g0, oX8 gk gx kind ws gbi p), (gk, aI x.g 16 K), (gx, aI x.g 16 X), (x0, oX1 xc (kind - 2) 0), (xc, aI x.g 4 c2)]) [0, 1, 2, 3, 4, 5] [3, 4, 5, 6, 7, 8, 0, 1, 2, 9, 10] rfl rfl (by decide) rfl ?_
              have hq7 := h204
              rw [hcg, htf, hfr] at hq7
              refine j_iinc (lv' := [(4, .int (iI (j + 1))), (5, .int (iI fr)), (0, .ref h0), (1, .ref g0), (2, .ref x0), (3, .int (iI (n / 2 ^ p.toNat)))]) jb dX2_writeForetold_207 5 rfl (by decide) rfl ?_
              refine j_goto (tgt := 111) jb dX2_writeForetold_210 (by decide) ?_
              refine j_norm (lv' := [(0, .ref h0), (1, .ref g0), (2, .ref x0), (3, .int (iI (n / 2 ^ p.toNat))), (4, .int (iI (j + 1)))]) (st' := []) (ws' := [(h0, oX2 c0 a0 n ch tn bi s0 r0 sb), (c0, oX7 v0 w0 x0 P0 t0), (v0, oX10 hv vn b w), (hv, aI x.g 400 v), (s0, oX0 h1 len fa p7), (h1, aI x.g 2400 B7), (g0, oX8 gk gx kind ws gbi p), (gk, aI x.g 16 K), (gx, aI x.g 16 X), (x0, oX1 xc (kind - 2) 0), (xc, aI x.g 4 c2)]) [2, 3, 4, 5, 0] [0, 1, 2, 3, 4, 5, 6, 7, 8, 9, 10] rfl rfl (by decide) rfl ?_
              exact ih111 (j + 1) p7 B7 (by have z := partsB_next (U := (rests v (cFix (kind - 2)) (kind - 2) 0)) (o := (kind - 2)) (each := (n / 2 ^ p.toNat)) (K := K) (X := X) hi1; exact ⟨by omega, by omega, by rw [z, List.length_append, List.length_append]; omega, by rw [z]; exact wrote_app hi4 (wrote_app hw6 hq7.1 (by omega) hp6) (by omega) hi3⟩) (by omega)
            refine j_if_ne (tgt := 174) jb dX2_writeForetold_164 (by decide) (by omega) (fun c_164 => ?_) (fun c_164 => ?_)
            · skip
              refine j_iload jb dX2_writeForetold_174 4 rfl ?_
              refine j_iload_n jb dX2_writeForetold_176 3 rfl ?_
              refine j_imul jb dX2_writeForetold_177 ?_
              refine j_norm (lv' := [(0, .ref h0), (1, .ref g0), (2, .ref x0), (3, .int (iI (n / 2 ^ p.toNat))), (4, .int (iI j))]) (st' := [.int (iI (j * (n / 2 ^ p.toNat)))]) (ws' := [(h0, oX2 c0 a0 n ch tn bi s0 r0 sb), (c0, oX7 v0 w0 x0 P0 t0), (v0, oX10 hv vn b w), (hv, aI x.g 400 v), (s0, oX0 h1 len fa q6), (h1, aI x.g 2400 B6), (g0, oX8 gk gx kind ws gbi p), (gk, aI x.g 16 K), (gx, aI x.g 16 X), (x0, oX1 xc (kind - 2) 0), (xc, aI x.g 4 c2)]) [0, 1, 2, 3, 4] [0, 1, 2, 3, 4, 5, 6, 7, 8, 9, 10] rfl rfl (by decide) rfl ?_
              exact J178 (j * (n / 2 ^ p.toNat)) (by unfold pst; first | (rw [if_pos c_164]; done) | (rw [if_neg c_164]; done))
            · skip
              refine j_aload_n jb dX2_writeForetold_167 2 rfl ?_
              refine j_get jb f_X2_133 dX2_writeForetold_168 9 rfl rfl ?_
              refine j_goto (tgt := 178) jb dX2_writeForetold_171 (by decide) ?_
              refine j_norm (lv' := [(0, .ref h0), (1, .ref g0), (2, .ref x0), (3, .int (iI (n / 2 ^ p.toNat))), (4, .int (iI j))]) (st' := [.int (iI (kind - 2))]) (ws' := [(h0, oX2 c0 a0 n ch tn bi s0 r0 sb), (c0, oX7 v0 w0 x0 P0 t0), (v0, oX10 hv vn b w), (hv, aI x.g 400 v), (s0, oX0 h1 len fa q6), (h1, aI x.g 2400 B6), (g0, oX8 gk gx kind ws gbi p), (gk, aI x.g 16 K), (gx, aI x.g 16 X), (x0, oX1 xc (kind - 2) 0), (xc, aI x.g 4 c2)]) [0, 1, 2, 3, 4] [0, 1, 2, 3, 4, 5, 6, 7, 8, 9, 10] rfl rfl (by decide) rfl ?_
              exact J178 (kind - 2) (by unfold pst; first | (rw [if_pos c_164]; done) | (rw [if_neg c_164]; done))
          refine j_icmp_ne (tgt := 162) jb dX2_writeForetold_144 (by decide) (by omega) (by omega) (fun c_144 => ?_) (fun c_144 => ?_)
          · skip
            refine j_norm (lv' := [(0, .ref h0), (1, .ref g0), (2, .ref x0), (3, .int (iI (n / 2 ^ p.toNat))), (4, .int (iI j))]) (st' := []) (ws' := [(h0, oX2 c0 a0 n ch tn bi s0 r0 sb), (c0, oX7 v0 w0 x0 P0 t0), (v0, oX10 hv vn b w), (hv, aI x.g 400 v), (s0, oX0 h1 len fa p4), (h1, aI x.g 2400 B4), (g0, oX8 gk gx kind ws gbi p), (gk, aI x.g 16 K), (gx, aI x.g 16 X), (x0, oX1 xc (kind - 2) 0), (xc, aI x.g 4 c2)]) [0, 1, 2, 3, 4] [0, 1, 2, 3, 4, 5, 6, 7, 8, 9, 10] rfl rfl (by decide) rfl ?_
            exact J162 p4 B4 ⟨by rw [kB_k c_144]; exact h132.1, by rw [kB_lenk c_144]; omega⟩
          · skip
            refine j_aload_n jb dX2_writeForetold_147 0 rfl ?_
            refine j_get jb f_X2_27 dX2_writeForetold_148 0 rfl rfl ?_
            refine j_aload_n jb dX2_writeForetold_151 1 rfl ?_
            refine j_get jb f_X2_153 dX2_writeForetold_152 6 rfl rfl ?_
            refine j_iload jb dX2_writeForetold_155 4 rfl ?_
            refine j_iald jb dX2_writeForetold_157 8 rfl (by omega) (by decide) ?_
            refine j_iconst jb dX2_writeForetold_158 ?_
            refine j_callV (wr := [(h0, oX2 c0 a0 n ch tn bi s0 r0 sb), (c0, oX7 v0 w0 x0 P0 t0), (v0, oX10 hv vn b w), (hv, aI x.g 400 v), (g0, oX8 gk gx kind ws gbi p), (gk, aI x.g 16 K), (gx, aI x.g 16 X), (x0, oX1 xc (kind - 2) 0), (xc, aI x.g 4 c2)]) jb k_X0_write i_X0_write s_X0_write l_X2_83 (C_X0_write x.l x.g s0 h1 B4 len fa p4 (X j) 5 h132.1.1 (by have := hkj.2 c_144; omega) (by decide) (by have := kB_len15 (x := X j) c_144; omega)) 4 2 rfl rfl rfl [4, 5] [0, 1, 2, 3, 6, 7, 8, 9, 10] (by decide) rfl rfl (by decide) (by decide) rfl rfl (Nat.le_of_ble_eq_true rfl) (by decide) dX2_writeForetold_159 (fun v w hp => ?_)
            obtain ⟨B5, p5, rfl, rfl, h159⟩ := hp
            refine j_norm (lv' := [(0, .ref h0), (1, .ref g0), (2, .ref x0), (3, .int (iI (n / 2 ^ p.toNat))), (4, .int (iI j))]) (st' := []) (ws' := [(h0, oX2 c0 a0 n ch tn bi s0 r0 sb), (c0, oX7 v0 w0 x0 P0 t0), (v0, oX10 hv vn b w), (hv, aI x.g 400 v), (s0, oX0 h1 len fa p5), (h1, aI x.g 2400 B5), (g0, oX8 gk gx kind ws gbi p), (gk, aI x.g 16 K), (gx, aI x.g 16 X), (x0, oX1 xc (kind - 2) 0), (xc, aI x.g 4 c2)]) [0, 1, 2, 3, 4] [0, 1, 2, 3, 9, 10, 4, 5, 6, 7, 8] rfl rfl (by decide) rfl ?_
            refine j_norm (lv' := [(0, .ref h0), (1, .ref g0), (2, .ref x0), (3, .int (iI (n / 2 ^ p.toNat))), (4, .int (iI j))]) (st' := []) (ws' := [(h0, oX2 c0 a0 n ch tn bi s0 r0 sb), (c0, oX7 v0 w0 x0 P0 t0), (v0, oX10 hv vn b w), (hv, aI x.g 400 v), (s0, oX0 h1 len fa p5), (h1, aI x.g 2400 B5), (g0, oX8 gk gx kind ws gbi p), (gk, aI x.g 16 K), (gx, aI x.g 16 X), (x0, oX1 xc (kind - 2) 0), (xc, aI x.g 4 c2)]) [0, 1, 2, 3, 4] [0, 1, 2, 3, 4, 5, 6, 7, 8, 9, 10] rfl rfl (by decide) rfl ?_
            exact J162 p5 B5 ⟨by rw [kB_15 c_144]; exact wrote_app h132.1 h159.1 (by omega) (by rw [nb_len]; omega), by rw [kB_len15 c_144]; omega⟩
    refine j_norm (lv' := [(0, .ref h0), (1, .ref g0), (2, .ref x0), (3, .int (iI (n / 2 ^ p.toNat))), (4, .int (iI 0))]) (st' := []) (ws' := [(h0, oX2 c0 a0 n ch tn bi s0 r0 sb), (c0, oX7 v0 w0 x0 P0 t0), (v0, oX10 hv vn b w), (hv, aI x.g 400 v), (s0, oX0 h1 len fa pos9), (h1, aI x.g 2400 B9), (g0, oX8 gk gx kind ws gbi p), (gk, aI x.g 16 K), (gx, aI x.g 16 X), (x0, oX1 xc (kind - 2) 0), (xc, aI x.g 4 c2)]) [3, 4, 2, 1, 0] [0, 1, 2, 3, 4, 5, 6, 7, 8, 9, 10] rfl rfl (by decide) rfl ?_
    exact L111 _ 0 pos9 B9 ⟨by decide, by omega, by show pos9 = pos9 + ((0 : Nat) : Int); omega, wrote_nil h95.1.1⟩ (Nat.lt_succ_self _)
  · skip
    exact absurd c_18 (by omega)

set_option maxHeartbeats 4000000 in
set_option maxRecDepth 100000 in
theorem C_X2_writeForetold_7 (l : Launch) (g : GG) (h0 c0 a0 s0 r0 v0 w0 x0 P0 t0 hv h1 g0 gk gx wc : Nat) (n ch tn bi sb vn b w len fa pos ws gbi p oo os : Int) (v B K X oc : Int → Int) (hn : 1 ≤ n ∧ n ≤ 400) (hb : 0 ≤ b ∧ b ≤ 17) (hv9 : vOk v n) (hB : isBytes B) (hp4 : 0 ≤ p ∧ p ≤ 4) (hkx : kxIn K X (2 ^ p.toNat)) (hpos : 0 ≤ pos) (hoo : 1 ≤ oo ∧ oo ≤ 4) (hos : 0 ≤ os ∧ os ≤ 15) (hcf : cfOk oc) (hon : oo ≤ n) (hff : oo ≤ (n / 2 ^ p.toNat) ∧ n = 2 ^ p.toNat * (n / 2 ^ p.toNat)) (hU : allU (rests v oc oo os) oo n) (hroom : pos + ((headB oo os oc ++ foreB v (rests v oc oo os) n oo b p K X)).length ≤ 19200) : Ctr l g yX2_writeForetold cX2_writeForetold 6 none 4 160 0 0 [.ref h0, .ref g0] [(h0, oX2 c0 a0 n ch tn bi s0 r0 sb), (c0, oX7 v0 w0 x0 P0 t0), (v0, oX10 hv vn b w), (hv, aI g 400 v), (s0, oX0 h1 len fa pos), (h1, aI g 2400 B), (g0, oX8 gk gx 7 ws gbi p), (gk, aI g 16 K), (gx, aI g 16 X), (w0, oX1 wc oo os), (wc, aI g 4 oc)] (fun vv ww => ∃ (B2 : Int → Int) (pos2 : Int), vv = none ∧ ww = [(h0, oX2 c0 a0 n ch tn bi s0 r0 sb), (c0, oX7 v0 w0 x0 P0 t0), (v0, oX10 hv vn b w), (hv, aI g 400 v), (s0, oX0 h1 len fa pos2), (h1, aI g 2400 B2), (g0, oX8 gk gx 7 ws gbi p), (gk, aI g 16 K), (gx, aI g 16 X), (w0, oX1 wc oo os), (wc, aI g 4 oc)] ∧ wrote 2400 B pos (headB oo os oc ++ foreB v (rests v oc oo os) n oo b p K X) B2 ∧ pos2 = pos + ((headB oo os oc ++ foreB v (rests v oc oo os) n oo b p K X)).length) := by
  refine Ctr.of [(0, .ref h0), (1, .ref g0)] (by decide) (Nat.le_of_ble_eq_true rfl) rfl ?_
  intro x hxl hxg jb jr hin
  subst hxl; subst hxg
  have q1 := pw_pos p
  have q2 : (2 : Int) ^ p.toNat ≤ 16 := by (have := pw_le (k := p) 4 hp4.2; rw [show (2 : Int) ^ 4 = 16 by decide] at this; exact this)
  have he0 : 0 ≤ (n / 2 ^ p.toNat) := by omega
  have hlen : ((headB oo os oc ++ foreB v (rests v oc oo os) n oo b p K X)).length = (headB oo os oc).length + ((valsB v b oo.toNat).length + 3 + (partsB (rests v oc oo os) oo (n / 2 ^ p.toNat) K X (2 ^ p.toNat)).length) := by (unfold foreB; simp only [List.length_append, nb_len])
  have hpn : (2 : Int) ^ p.toNat = ((2 ^ p.toNat : Nat) : Int) := (Int.natCast_pow 2 _).symm
  have hpt : ((2 : Int) ^ p.toNat).toNat = 2 ^ p.toNat := pw_nat rfl
  have hhl := headB_len (os := os) (oc := oc) (show 0 ≤ oo by omega)
  refine j_aload_n jb dX2_writeForetold_0 0 rfl ?_
  refine j_get jb f_X2_23 dX2_writeForetold_1 0 rfl rfl ?_
  refine j_aload_n jb dX2_writeForetold_4 1 rfl ?_
  refine j_get jb f_X2_110 dX2_writeForetold_5 6 rfl rfl ?_
  refine j_callV (wr := [(h0, oX2 c0 a0 n ch tn bi s0 r0 sb), (v0, oX10 hv vn b w), (hv, aI x.g 400 v), (s0, oX0 h1 len fa pos), (h1, aI x.g 2400 B), (g0, oX8 gk gx 7 ws gbi p), (gk, aI x.g 16 K), (gx, aI x.g 16 X), (w0, oX1 wc oo os), (wc, aI x.g 4 oc)]) jb k_X7_foretellingOf i_X7_foretellingOf s_X7_foretellingOf l_X2_129 (C_X7_foretellingOf_7 x.l x.g c0 v0 w0 x0 P0 t0 ) 1 9 rfl rfl rfl [1] [0, 2, 3, 4, 5, 6, 7, 8, 9, 10] (by decide) rfl rfl (by decide) (by decide) rfl rfl (Nat.le_of_ble_eq_true rfl) (by decide) dX2_writeForetold_8 (fun v w hp => ?_)
  obtain ⟨rfl, rfl⟩ := hp
  refine j_norm (lv' := [(0, .ref h0), (1, .ref g0)]) (st' := [.ref w0]) (ws' := [(h0, oX2 c0 a0 n ch tn bi s0 r0 sb), (c0, oX7 v0 w0 x0 P0 t0), (v0, oX10 hv vn b w), (hv, aI x.g 400 v), (s0, oX0 h1 len fa pos), (h1, aI x.g 2400 B), (g0, oX8 gk gx 7 ws gbi p), (gk, aI x.g 16 K), (gx, aI x.g 16 X), (w0, oX1 wc oo os), (wc, aI x.g 4 oc)]) [0, 1] [0, 10, 1, 2, 3, 4, 5, 6, 7, 8, 9] rfl rfl (by decide) rfl ?_
  refine j_astore_n (lv' := [(2, .ref w0), (0, .ref h0), (1, .ref g0)]) jb dX2_writeForetold_11 rfl (by decide) rfl ?_
  refine j_aload_n jb dX2_writeForetold_12 2 rfl ?_
  refine j_get jb f_X2_110 dX2_writeForetold_13 6 rfl rfl ?_
  refine j_bipush jb dX2_writeForetold_16 (by decide) ?_
  refine j_icmp_ne (tgt := 78) jb dX2_writeForetold_18 (by decide) (by decide) (by decide) (fun h => absurd h (by decide)) (fun _ => ?_)
  refine j_aload_n jb dX2_writeForetold_21 1 rfl ?_
  refine j_get jb f_X2_27 dX2_writeForetold_22 0 rfl rfl ?_
  refine j_aload_n jb dX2_writeForetold_25 0 rfl ?_
  refine j_get jb f_X2_133 dX2_writeForetold_26 9 rfl rfl ?_
  refine j_iconst jb dX2_writeForetold_29 ?_
  refine j_isub jb dX2_writeForetold_30 ?_
  refine j_iconst jb dX2_writeForetold_31 ?_
  refine j_callV (wr := [(h0, oX2 c0 a0 n ch tn bi s0 r0 sb), (c0, oX7 v0 w0 x0 P0 t0), (v0, oX10 hv vn b w), (hv, aI x.g 400 v), (g0, oX8 gk gx 7 ws gbi p), (gk, aI x.g 16 K), (gx, aI x.g 16 X), (w0, oX1 wc oo os), (wc, aI x.g 4 oc)]) jb k_X0_write i_X0_write s_X0_write l_X2_83 (C_X0_write x.l x.g s0 h1 B len fa pos (oo - 1) 2 hB (by omega) (by decide) (by omega)) 4 2 rfl rfl rfl [4, 5] [0, 1, 2, 3, 6, 7, 8, 9, 10] (by decide) rfl rfl (by decide) (by decide) rfl rfl (Nat.le_of_ble_eq_true rfl) (by decide) dX2_writeForetold_32 (fun v w hp => ?_)
  obtain ⟨B1, pos1, rfl, rfl, h32⟩ := hp
  refine j_norm (lv' := [(2, .ref w0), (0, .ref h0), (1, .ref g0)]) (st' := []) (ws' := [(h0, oX2 c0 a0 n ch tn bi s0 r0 sb), (c0, oX7 v0 w0 x0 P0 t0), (v0, oX10 hv vn b w), (hv, aI x.g 400 v), (s0, oX0 h1 len fa pos1), (h1, aI x.g 2400 B1), (g0, oX8 gk gx 7 ws gbi p), (gk, aI x.g 16 K), (gx, aI x.g 16 X), (w0, oX1 wc oo os), (wc, aI x.g 4 oc)]) [0, 1, 2] [0, 1, 2, 3, 9, 10, 4, 5, 6, 7, 8] rfl rfl (by decide) rfl ?_
  refine j_aload_n jb dX2_writeForetold_35 1 rfl ?_
  refine j_get jb f_X2_27 dX2_writeForetold_36 0 rfl rfl ?_
  refine j_aload_n jb dX2_writeForetold_39 0 rfl ?_
  refine j_get jb f_X2_138 dX2_writeForetold_40 9 rfl rfl ?_
  refine j_iconst jb dX2_writeForetold_43 ?_
  refine j_callV (wr := [(h0, oX2 c0 a0 n ch tn bi s0 r0 sb), (c0, oX7 v0 w0 x0 P0 t0), (v0, oX10 hv vn b w), (hv, aI x.g 400 v), (g0, oX8 gk gx 7 ws gbi p), (gk, aI x.g 16 K), (gx, aI x.g 16 X), (w0, oX1 wc oo os), (wc, aI x.g 4 oc)]) jb k_X0_write i_X0_write s_X0_write l_X2_83 (C_X0_write x.l x.g s0 h1 B1 len fa pos1 os 4 h32.1.1 (by omega) (by decide) (by omega)) 4 2 rfl rfl rfl [4, 5] [0, 1, 2, 3, 6, 7, 8, 9, 10] (by decide) rfl rfl (by decide) (by decide) rfl rfl (Nat.le_of_ble_eq_true rfl) (by decide) dX2_writeForetold_44 (fun v w hp => ?_)
  obtain ⟨Ba, posa, rfl, rfl, h44⟩ := hp
  refine j_norm (lv' := [(2, .ref w0), (0, .ref h0), (1, .ref g0)]) (st' := []) (ws' := [(h0, oX2 c0 a0 n ch tn bi s0 r0 sb), (c0, oX7 v0 w0 x0 P0 t0), (v0, oX10 hv vn b w), (hv, aI x.g 400 v), (s0, oX0 h1 len fa posa), (h1, aI x.g 2400 Ba), (g0, oX8 gk gx 7 ws gbi p), (gk, aI x.g 16 K), (gx, aI x.g 16 X), (w0, oX1 wc oo os), (wc, aI x.g 4 oc)]) [0, 1, 2] [0, 1, 2, 3, 9, 10, 4, 5, 6, 7, 8] rfl rfl (by decide) rfl ?_
  refine j_iconst jb dX2_writeForetold_47 ?_
  refine j_istore_n (lv' := [(3, .int (iI 0)), (2, .ref w0), (0, .ref h0), (1, .ref g0)]) jb dX2_writeForetold_48 rfl (by decide) rfl ?_
  have L49 : ∀ (fu : Nat) (i q : Int) (B2 : Int → Int), (0 ≤ i ∧ i ≤ oo ∧ q = posa + (cofB oc i.toNat).length ∧ wrote 2400 Ba posa (cofB oc i.toNat) B2) → (oo - i).toNat < fu → JW x 0 0 49 [(0, .ref h0), (1, .ref g0), (2, .ref w0), (3, .int (iI i))] [] [(h0, oX2 c0 a0 n ch tn bi s0 r0 sb), (c0, oX7 v0 w0 x0 P0 t0), (v0, oX10 hv vn b w), (hv, aI x.g 400 v), (s0, oX0 h1 len fa q), (h1, aI x.g 2400 B2), (g0, oX8 gk gx 7 ws gbi p), (gk, aI x.g 16 K), (gx, aI x.g 16 X), (w0, oX1 wc oo os), (wc, aI x.g 4 oc)] := by
    intro fu
    induction fu with
    | zero => intro i q B2 _ hm; exact absurd hm (by omega)
    | succ fu ih =>
      intro i q B2 ⟨hk1, hk2, hk3, hk4⟩ hm49
      have ih49 := ih
      clear ih
      refine j_iload_n jb dX2_writeForetold_49 3 rfl ?_
      refine j_aload_n jb dX2_writeForetold_50 2 rfl ?_
      refine j_get jb f_X2_133 dX2_writeForetold_51 9 rfl rfl ?_
      refine j_icmp_ge (tgt := 78) jb dX2_writeForetold_54 (by decide) (by omega) (by omega) (fun c_54 => ?_) (fun c_54 => ?_)
      · skip
        have hio : i = oo := by omega
        have hw0 : wrote 2400 B pos (headB oo os oc) B2 := by (rw [hio] at hk4; exact wrote_app (wrote_app h32.1 h44.1 hpos (by rw [nb_len]; omega)) hk4 hpos (by rw [List.length_append, nb_len, nb_len]; omega))
        have hq0 : q = pos + (headB oo os oc).length := by (have := cofB_len oc i.toNat; omega)
        refine j_aload_n jb dX2_writeForetold_78 0 rfl ?_
        refine j_aload_n jb dX2_writeForetold_79 2 rfl ?_
        refine j_get jb f_X2_133 dX2_writeForetold_80 9 rfl rfl ?_
        refine j_callV (wr := [(g0, oX8 gk gx 7 ws gbi p), (gk, aI x.g 16 K), (gx, aI x.g 16 X), (w0, oX1 wc oo os), (wc, aI x.g 4 oc)]) jb k_X2_writeValues i_X2_writeValues s_X2_writeValues l_X2_116 (C_X2_writeValues x.l x.g h0 c0 a0 s0 r0 v0 w0 x0 P0 t0 hv h1 n ch tn bi sb vn b w len fa q v B2 oo (by omega) hb hw0.1 (fun j h1 h2 => by have := hv9 j h1 (by omega); omega) (by omega)) 0 4 rfl rfl rfl [0, 1, 2, 3, 4, 5] [6, 7, 8, 9, 10] (by decide) rfl rfl (by decide) (by decide) rfl rfl (Nat.le_of_ble_eq_true rfl) (by decide) dX2_writeForetold_83 (fun v w hp => ?_)
        obtain ⟨B8, pos8, rfl, rfl, h83⟩ := hp
        refine j_norm (lv' := [(0, .ref h0), (1, .ref g0), (2, .ref w0), (3, .int (iI i))]) (st' := []) (ws' := [(h0, oX2 c0 a0 n ch tn bi s0 r0 sb), (c0, oX7 v0 w0 x0 P0 t0), (v0, oX10 hv vn b w), (hv, aI x.g 400 v), (s0, oX0 h1 len fa pos8), (h1, aI x.g 2400 B8), (g0, oX8 gk gx 7 ws gbi p), (gk, aI x.g 16 K), (gx, aI x.g 16 X), (w0, oX1 wc oo os), (wc, aI x.g 4 oc)]) [0, 1, 2, 3] [5, 6, 7, 8, 9, 10, 0, 1, 2, 3, 4] rfl rfl (by decide) rfl ?_
        refine j_aload_n jb dX2_writeForetold_86 0 rfl ?_
        refine j_get jb f_X2_27 dX2_writeForetold_87 0 rfl rfl ?_
        refine j_aload_n jb dX2_writeForetold_90 1 rfl ?_
        refine j_get jb f_X2_144 dX2_writeForetold_91 6 rfl rfl ?_
        refine j_iconst jb dX2_writeForetold_94 ?_
        refine j_callV (wr := [(h0, oX2 c0 a0 n ch tn bi s0 r0 sb), (c0, oX7 v0 w0 x0 P0 t0), (v0, oX10 hv vn b w), (hv, aI x.g 400 v), (g0, oX8 gk gx 7 ws gbi p), (gk, aI x.g 16 K), (gx, aI x.g 16 X), (w0, oX1 wc oo os), (wc, aI x.g 4 oc)]) jb k_X0_write i_X0_write s_X0_write l_X2_83 (C_X0_write x.l x.g s0 h1 B8 len fa pos8 p 3 h83.1.1 (by omega) (by decide) (by omega)) 4 2 rfl rfl rfl [4, 5] [0, 1, 2, 3, 6, 7, 8, 9, 10] (by decide) rfl rfl (by decide) (by decide) rfl rfl (Nat.le_of_ble_eq_true rfl) (by decide) dX2_writeForetold_95 (fun v w hp => ?_)
        obtain ⟨B9, pos9, rfl, rfl, h95⟩ := hp
        refine j_norm (lv' := [(0, .ref h0), (1, .ref g0), (2, .ref w0), (3, .int (iI i))]) (st' := []) (ws' := [(h0, oX2 c0 a0 n ch tn bi s0 r0 sb), (c0, oX7 v0 w0 x0 P0 t0), (v0, oX10 hv vn b w), (hv, aI x.g 400 v), (s0, oX0 h1 len fa pos9), (h1, aI x.g 2400 B9), (g0, oX8 gk gx 7 ws gbi p), (gk, aI x.g 16 K), (gx, aI x.g 16 X), (w0, oX1 wc oo os), (wc, aI x.g 4 oc)]) [0, 1, 2, 3] [0, 1, 2, 3, 9, 10, 4, 5, 6, 7, 8] rfl rfl (by decide) rfl ?_
        refine j_aload_n jb dX2_writeForetold_98 0 rfl ?_
        refine j_get jb f_X2_37 dX2_writeForetold_99 0 rfl rfl ?_
        refine j_aload_n jb dX2_writeForetold_102 1 rfl ?_
        refine j_get jb f_X2_144 dX2_writeForetold_103 6 rfl rfl ?_
        refine j_ishr jb dX2_writeForetold_106 (by omega) (by omega) ?_
        refine j_istore_n (lv' := [(3, .int (iI (n / 2 ^ p.toNat))), (0, .ref h0), (1, .ref g0), (2, .ref w0)]) jb dX2_writeForetold_107 rfl (by decide) rfl ?_
        refine j_iconst jb dX2_writeForetold_108 ?_
        refine j_istore (lv' := [(4, .int (iI 0)), (3, .int (iI (n / 2 ^ p.toNat))), (0, .ref h0), (1, .ref g0), (2, .ref w0)]) jb dX2_writeForetold_109 (by decide) rfl ?_
        have L111 : ∀ (fu : Nat) (j q : Int) (B1 : Int → Int), (0 ≤ j ∧ j ≤ 2 ^ p.toNat ∧ q = pos9 + (partsB (rests v oc oo os) oo (n / 2 ^ p.toNat) K X j.toNat).length ∧ wrote 2400 B9 pos9 (partsB (rests v oc oo os) oo (n / 2 ^ p.toNat) K X j.toNat) B1) → (2 ^ p.toNat - j).toNat < fu → JW x 0 0 111 [(0, .ref h0), (1, .ref g0), (2, .ref w0), (3, .int (iI (n / 2 ^ p.toNat))), (4, .int (iI j))] [] [(h0, oX2 c0 a0 n ch tn bi s0 r0 sb), (c0, oX7 v0 w0 x0 P0 t0), (v0, oX10 hv vn b w), (hv, aI x.g 400 v), (s0, oX0 h1 len fa q), (h1, aI x.g 2400 B1), (g0, oX8 gk gx 7 ws gbi p), (gk, aI x.g 16 K), (gx, aI x.g 16 X), (w0, oX1 wc oo os), (wc, aI x.g 4 oc)] := by
          intro fu
          induction fu with
          | zero => intro j q B1 _ hm; exact absurd hm (by omega)
          | succ fu ih =>
            intro j q B1 ⟨hi1, hi2, hi3, hi4⟩ hm111
            have ih111 := ih
            clear ih
            refine j_iload jb dX2_writeForetold_111 4 rfl ?_
            refine j_aload_n jb dX2_writeForetold_113 1 rfl ?_
            refine j_callV (wr := [(h0, oX2 c0 a0 n ch tn bi s0 r0 sb), (c0, oX7 v0 w0 x0 P0 t0), (v0, oX10 hv vn b w), (hv, aI x.g 400 v), (s0, oX0 h1 len fa q), (h1, aI x.g 2400 B1), (gk, aI x.g 16 K), (gx, aI x.g 16 X), (w0, oX1 wc oo os), (wc, aI x.g 4 oc)]) jb k_X8_countParts i_X8_countParts s_X8_countParts l_X2_147 (C_X8_countParts x.l x.g g0 gk gx 7 ws gbi p (by omega)) 6 10 rfl rfl rfl [6] [0, 1, 2, 3, 4, 5, 7, 8, 9, 10] (by decide) rfl rfl (by decide) (by decide) rfl rfl (Nat.le_of_ble_eq_true rfl) (by decide) dX2_writeForetold_114 (fun v w hp => ?_)
            obtain ⟨cp, rfl, rfl, h114⟩ := hp
            refine j_norm (lv' := [(0, .ref h0), (1, .ref g0), (2, .ref w0), (3, .int (iI (n / 2 ^ p.toNat))), (4, .int (iI j))]) (st' := [.int (iI cp), .int (iI j)]) (ws' := [(h0, oX2 c0 a0 n ch tn bi s0 r0 sb), (c0, oX7 v0 w0 x0 P0 t0), (v0, oX10 hv vn b w), (hv, aI x.g 400 v), (s0, oX0 h1 len fa q), (h1, aI x.g 2400 B1), (g0, oX8 gk gx 7 ws gbi p), (gk, aI x.g 16 K), (gx, aI x.g 16 X), (w0, oX1 wc oo os), (wc, aI x.g 4 oc)]) [0, 1, 2, 3, 4] [0, 1, 2, 3, 4, 5, 10, 6, 7, 8, 9] rfl rfl (by decide) rfl ?_
            rw [cparts_p hp4.1] at h114
            refine j_icmp_ge (tgt := 213) jb dX2_writeForetold_117 (by decide) (by omega) (by omega) (fun c_117 => ?_) (fun c_117 => ?_)
            · skip
              refine j_norm (lv' := []) (st' := []) (ws' := [(h0, oX2 c0 a0 n ch tn bi s0 r0 sb), (c0, oX7 v0 w0 x0 P0 t0), (v0, oX10 hv vn b w), (hv, aI x.g 400 v), (s0, oX0 h1 len fa q), (h1, aI x.g 2400 B1), (g0, oX8 gk gx 7 ws gbi p), (gk, aI x.g 16 K), (gx, aI x.g 16 X), (w0, oX1 wc oo os), (wc, aI x.g 4 oc)]) [] [0, 1, 2, 3, 4, 5, 6, 7, 8, 9, 10] rfl rfl (by decide) rfl ?_
              exact j_vret jb jr dX2_writeForetold_213 ⟨_, _, rfl, rfl, (by have e2 : j.toNat = 2 ^ p.toNat := (by rw [← hpt]; congr 1; omega); rw [e2] at hi3 hi4; refine ⟨?_, by omega⟩; unfold foreB; exact wrote_app hw0 (wrote_app (wrote_app h83.1 h95.1 (by omega) (by omega)) hi4 (by omega) (by rw [List.length_append, nb_len]; omega)) hpos hq0)⟩
            · skip
              have hjp : j < 2 ^ p.toNat := by omega
              have hkj := hkx j hi1 hjp
              have hrm := partsB_room (U := (rests v oc oo os)) (o := oo) (each := (n / 2 ^ p.toNat)) (K := K) (X := X) hi1 hjp
              rw [hpt] at hrm
              refine j_aload_n jb dX2_writeForetold_120 0 rfl ?_
              refine j_get jb f_X2_27 dX2_writeForetold_121 0 rfl rfl ?_
              refine j_aload_n jb dX2_writeForetold_124 1 rfl ?_
              refine j_get jb f_X2_150 dX2_writeForetold_125 6 rfl rfl ?_
              refine j_iload jb dX2_writeForetold_128 4 rfl ?_
              refine j_iald jb dX2_writeForetold_130 7 rfl (by omega) (by decide) ?_
              refine j_iconst jb dX2_writeForetold_131 ?_
              refine j_callV (wr := [(h0, oX2 c0 a0 n ch tn bi s0 r0 sb), (c0, oX7 v0 w0 x0 P0 t0), (v0, oX10 hv vn b w), (hv, aI x.g 400 v), (g0, oX8 gk gx 7 ws gbi p), (gk, aI x.g 16 K), (gx, aI x.g 16 X), (w0, oX1 wc oo os), (wc, aI x.g 4 oc)]) jb k_X0_write i_X0_write s_X0_write l_X2_83 (C_X0_write x.l x.g s0 h1 B1 len fa q (K j) 4 hi4.1 (by omega) (by decide) (by (by_cases q : K j = 15); { have := kB_len15 (x := X j) q; omega }; { have := kB_lenk (x := X j) q; omega })) 4 2 rfl rfl rfl [4, 5] [0, 1, 2, 3, 6, 7, 8, 9, 10] (by decide) rfl rfl (by decide) (by decide) rfl rfl (Nat.le_of_ble_eq_true rfl) (by decide) dX2_writeForetold_132 (fun v w hp => ?_)
              obtain ⟨B4, p4, rfl, rfl, h132⟩ := hp
              refine j_norm (lv' := [(0, .ref h0), (1, .ref g0), (2, .ref w0), (3, .int (iI (n / 2 ^ p.toNat))), (4, .int (iI j))]) (st' := []) (ws' := [(h0, oX2 c0 a0 n ch tn bi s0 r0 sb), (c0, oX7 v0 w0 x0 P0 t0), (v0, oX10 hv vn b w), (hv, aI x.g 400 v), (s0, oX0 h1 len fa p4), (h1, aI x.g 2400 B4), (g0, oX8 gk gx 7 ws gbi p), (gk, aI x.g 16 K), (gx, aI x.g 16 X), (w0, oX1 wc oo os), (wc, aI x.g 4 oc)]) [0, 1, 2, 3, 4] [0, 1, 2, 3, 9, 10, 4, 5, 6, 7, 8] rfl rfl (by decide) rfl ?_
              refine j_aload_n jb dX2_writeForetold_135 1 rfl ?_
              refine j_get jb f_X2_150 dX2_writeForetold_136 6 rfl rfl ?_
              refine j_iload jb dX2_writeForetold_139 4 rfl ?_
              refine j_iald jb dX2_writeForetold_141 7 rfl (by omega) (by decide) ?_
              refine j_bipush jb dX2_writeForetold_142 (by decide) ?_
              have J162 : ∀ (q6 : Int) (B6 : Int → Int), (wrote 2400 B1 q (kB (K j) (X j)) B6 ∧ q6 = q + (kB (K j) (X j)).length) → JW x 0 0 162 [(0, .ref h0), (1, .ref g0), (2, .ref w0), (3, .int (iI (n / 2 ^ p.toNat))), (4, .int (iI j))] [] [(h0, oX2 c0 a0 n ch tn bi s0 r0 sb), (c0, oX7 v0 w0 x0 P0 t0), (v0, oX10 hv vn b w), (hv, aI x.g 400 v), (s0, oX0 h1 len fa q6), (h1, aI x.g 2400 B6), (g0, oX8 gk gx 7 ws gbi p), (gk, aI x.g 16 K), (gx, aI x.g 16 X), (w0, oX1 wc oo os), (wc, aI x.g 4 oc)] := by
                intro q6 B6 ⟨hw6, hp6⟩
                refine j_iload jb dX2_writeForetold_162 4 rfl ?_
                have J178 : ∀ (fr : Int), fr = pst oo (n / 2 ^ p.toNat) j → JW x 0 0 178 [(0, .ref h0), (1, .ref g0), (2, .ref w0), (3, .int (iI (n / 2 ^ p.toNat))), (4, .int (iI j))] [.int (iI fr)] [(h0, oX2 c0 a0 n ch tn bi s0 r0 sb), (c0, oX7 v0 w0 x0 P0 t0), (v0, oX10 hv vn b w), (hv, aI x.g 400 v), (s0, oX0 h1 len fa q6), (h1, aI x.g 2400 B6), (g0, oX8 gk gx 7 ws gbi p), (gk, aI x.g 16 K), (gx, aI x.g 16 X), (w0, oX1 wc oo os), (wc, aI x.g 4 oc)] := by
                  intro fr hfr
                  have hpr := prange (n := n) (o := oo) (each := (n / 2 ^ p.toNat)) (c := 2 ^ p.toNat) (j := j) (by omega) hff.2 ⟨hi1, hjp⟩
                  have hpe := pend oo (n / 2 ^ p.toNat) j
                  have htf : ((j + 1) * (n / 2 ^ p.toNat) - fr).toNat = (pln oo (n / 2 ^ p.toNat) j).toNat := by (rw [hfr, ← hpe]; congr 1; omega)
                  refine j_istore (lv' := [(5, .int (iI fr)), (0, .ref h0), (1, .ref g0), (2, .ref w0), (3, .int (iI (n / 2 ^ p.toNat))), (4, .int (iI j))]) jb dX2_writeForetold_178 (by decide) rfl ?_
                  refine j_aload_n jb dX2_writeForetold_180 1 rfl ?_
                  refine j_aload_n jb dX2_writeForetold_181 3 rfl ?_
                  refine j_iload jb dX2_writeForetold_182 0 rfl ?_
                  refine j_iload jb dX2_writeForetold_184 5 rfl ?_
                  refine j_iconst jb dX2_writeForetold_186 ?_
                  refine j_iadd jb dX2_writeForetold_187 ?_
                  refine j_iload_n jb dX2_writeForetold_188 4 rfl ?_
                  refine j_imul jb dX2_writeForetold_189 ?_
                  refine j_aload_n jb dX2_writeForetold_190 2 rfl ?_
                  refine j_get jb f_X2_150 dX2_writeForetold_191 6 rfl rfl ?_
                  refine j_iload jb dX2_writeForetold_194 5 rfl ?_
                  refine j_iald jb dX2_writeForetold_196 7 rfl (by omega) (by decide) ?_
                  refine j_aload_n jb dX2_writeForetold_197 2 rfl ?_
                  refine j_get jb f_X2_153 dX2_writeForetold_198 6 rfl rfl ?_
                  refine j_iload jb dX2_writeForetold_201 5 rfl ?_
                  refine j_iald jb dX2_writeForetold_203 8 rfl (by omega) (by decide) ?_
                  refine j_callV (wr := [(g0, oX8 gk gx 7 ws gbi p), (gk, aI x.g 16 K), (gx, aI x.g 16 X)]) jb k_X2_writeRests i_X2_writeRests s_X2_writeRests l_X2_156 (C_X2_writeRests x.l x.g h0 c0 a0 s0 r0 v0 w0 x0 P0 t0 hv h1 w0 wc n ch tn bi sb vn b w len fa q6 v B6 oc oo os fr ((j + 1) * (n / 2 ^ p.toNat)) (K j) (X j) (by omega) hos hcf (fun i h1 h2 => hv9 i h1 (by omega)) (by omega) hkj.1 hkj.2 (fun i h1 h2 => hU i (by omega) (by omega)) hw6.1 (by rw [htf, hfr]; omega)) 0 4 rfl rfl rfl [0, 1, 2, 3, 4, 5, 9, 10] [6, 7, 8] (by decide) rfl rfl (by decide) (by decide) rfl rfl (Nat.le_of_ble_eq_true rfl) (by decide) dX2_writeForetold_204 (fun v w hp => ?_)
                  obtain ⟨B7, p7, rfl, rfl, h204⟩ := hp
                  refine j_norm (lv' := [(5, .int (iI fr)), (0, .ref h0), (1, .ref g0), (2, .ref w0), (3, .int (iI (n / 2 ^ p.toNat))), (4, .int (iI j))]) (st' := []) (ws' := [(h0, oX2 c0 a0 n ch tn bi s0 r0 sb), (c0, oX7 v0 w0 x0 P0 t0), (v0, oX10 hv vn b w), (hv, aI x.g 400 v), (s0, oX0 h1 len fa p7), (h1, aI x.g 2400 B7), (g0, oX8 gk gx 7 ws gbi p), (gk, aI x.g 16 K), (gx, aI x.g 16 X), (w0, oX1 wc oo os), (wc, aI x.g 4 oc)]) [0, 1, 2, 3, 4, 5] [3, 4, 5, 6, 7, 8, 0, 1, 2, 9, 10] rfl rfl (by decide) rfl ?_
                  have hq7 := h204
                  rw [htf, hfr] at hq7
                  refine j_iinc (lv' := [(4, .int (iI (j + 1))), (5, .int (iI fr)), (0, .ref h0), (1, .ref g0), (2, .ref w0), (3, .int (iI (n / 2 ^ p.toNat)))]) jb dX2_writeForetold_207 5 rfl (by decide) rfl ?_
                  refine j_goto (tgt := 111) jb dX2_writeForetold_210 (by decide) ?_
                  refine j_norm (lv' := [(0, .ref h0), (1, .ref g0), (2, .ref w0), (3, .int (iI (n / 2 ^ p.toNat))), (4, .int (iI (j + 1)))]) (st' := []) (ws' := [(h0, oX2 c0 a0 n ch tn bi s0 r0 sb), (c0, oX7 v0 w0 x0 P0 t0), (v0, oX10 hv vn b w), (hv, aI x.g 400 v), (s0, oX0 h1 len fa p7), (h1, aI x.g 2400 B7), (g0, oX8 gk gx 7 ws gbi p), (gk, aI x.g 16 K), (gx, aI x.g 16 X), (w0, oX1 wc oo os), (wc, aI x.g 4 oc)]) [2, 3, 4, 5, 0] [0, 1, 2, 3, 4, 5, 6, 7, 8, 9, 10] rfl rfl (by decide) rfl ?_
                  exact ih111 (j + 1) p7 B7 (by have z := partsB_next (U := (rests v oc oo os)) (o := oo) (each := (n / 2 ^ p.toNat)) (K := K) (X := X) hi1; exact ⟨by omega, by omega, by rw [z, List.length_append, List.length_append]; omega, by rw [z]; exact wrote_app hi4 (wrote_app hw6 hq7.1 (by omega) hp6) (by omega) hi3⟩) (by omega)
                refine j_if_ne (tgt := 174) jb dX2_writeForetold_164 (by decide) (by omega) (fun c_164 => ?_) (fun c_164 => ?_)
                · skip
                  refine j_iload jb dX2_writeForetold_174 4 rfl ?_
                  refine j_iload_n jb dX2_writeForetold_176 3 rfl ?_
                  refine j_imul jb dX2_writeForetold_177 ?_
                  refine j_norm (lv' := [(0, .ref h0), (1, .ref g0), (2, .ref w0), (3, .int (iI (n / 2 ^ p.toNat))), (4, .int (iI j))]) (st' := [.int (iI (j * (n / 2 ^ p.toNat)))]) (ws' := [(h0, oX2 c0 a0 n ch tn bi s0 r0 sb), (c0, oX7 v0 w0 x0 P0 t0), (v0, oX10 hv vn b w), (hv, aI x.g 400 v), (s0, oX0 h1 len fa q6), (h1, aI x.g 2400 B6), (g0, oX8 gk gx 7 ws gbi p), (gk, aI x.g 16 K), (gx, aI x.g 16 X), (w0, oX1 wc oo os), (wc, aI x.g 4 oc)]) [0, 1, 2, 3, 4] [0, 1, 2, 3, 4, 5, 6, 7, 8, 9, 10] rfl rfl (by decide) rfl ?_
                  exact J178 (j * (n / 2 ^ p.toNat)) (by unfold pst; first | (rw [if_pos c_164]; done) | (rw [if_neg c_164]; done))
                · skip
                  refine j_aload_n jb dX2_writeForetold_167 2 rfl ?_
                  refine j_get jb f_X2_133 dX2_writeForetold_168 9 rfl rfl ?_
                  refine j_goto (tgt := 178) jb dX2_writeForetold_171 (by decide) ?_
                  refine j_norm (lv' := [(0, .ref h0), (1, .ref g0), (2, .ref w0), (3, .int (iI (n / 2 ^ p.toNat))), (4, .int (iI j))]) (st' := [.int (iI oo)]) (ws' := [(h0, oX2 c0 a0 n ch tn bi s0 r0 sb), (c0, oX7 v0 w0 x0 P0 t0), (v0, oX10 hv vn b w), (hv, aI x.g 400 v), (s0, oX0 h1 len fa q6), (h1, aI x.g 2400 B6), (g0, oX8 gk gx 7 ws gbi p), (gk, aI x.g 16 K), (gx, aI x.g 16 X), (w0, oX1 wc oo os), (wc, aI x.g 4 oc)]) [0, 1, 2, 3, 4] [0, 1, 2, 3, 4, 5, 6, 7, 8, 9, 10] rfl rfl (by decide) rfl ?_
                  exact J178 oo (by unfold pst; first | (rw [if_pos c_164]; done) | (rw [if_neg c_164]; done))
              refine j_icmp_ne (tgt := 162) jb dX2_writeForetold_144 (by decide) (by omega) (by omega) (fun c_144 => ?_) (fun c_144 => ?_)
              · skip
                refine j_norm (lv' := [(0, .ref h0), (1, .ref g0), (2, .ref w0), (3, .int (iI (n / 2 ^ p.toNat))), (4, .int (iI j))]) (st' := []) (ws' := [(h0, oX2 c0 a0 n ch tn bi s0 r0 sb), (c0, oX7 v0 w0 x0 P0 t0), (v0, oX10 hv vn b w), (hv, aI x.g 400 v), (s0, oX0 h1 len fa p4), (h1, aI x.g 2400 B4), (g0, oX8 gk gx 7 ws gbi p), (gk, aI x.g 16 K), (gx, aI x.g 16 X), (w0, oX1 wc oo os), (wc, aI x.g 4 oc)]) [0, 1, 2, 3, 4] [0, 1, 2, 3, 4, 5, 6, 7, 8, 9, 10] rfl rfl (by decide) rfl ?_
                exact J162 p4 B4 ⟨by rw [kB_k c_144]; exact h132.1, by rw [kB_lenk c_144]; omega⟩
              · skip
                refine j_aload_n jb dX2_writeForetold_147 0 rfl ?_
                refine j_get jb f_X2_27 dX2_writeForetold_148 0 rfl rfl ?_
                refine j_aload_n jb dX2_writeForetold_151 1 rfl ?_
                refine j_get jb f_X2_153 dX2_writeForetold_152 6 rfl rfl ?_
                refine j_iload jb dX2_writeForetold_155 4 rfl ?_
                refine j_iald jb dX2_writeForetold_157 8 rfl (by omega) (by decide) ?_
                refine j_iconst jb dX2_writeForetold_158 ?_
                refine j_callV (wr := [(h0, oX2 c0 a0 n ch tn bi s0 r0 sb), (c0, oX7 v0 w0 x0 P0 t0), (v0, oX10 hv vn b w), (hv, aI x.g 400 v), (g0, oX8 gk gx 7 ws gbi p), (gk, aI x.g 16 K), (gx, aI x.g 16 X), (w0, oX1 wc oo os), (wc, aI x.g 4 oc)]) jb k_X0_write i_X0_write s_X0_write l_X2_83 (C_X0_write x.l x.g s0 h1 B4 len fa p4 (X j) 5 h132.1.1 (by have := hkj.2 c_144; omega) (by decide) (by have := kB_len15 (x := X j) c_144; omega)) 4 2 rfl rfl rfl [4, 5] [0, 1, 2, 3, 6, 7, 8, 9, 10] (by decide) rfl rfl (by decide) (by decide) rfl rfl (Nat.le_of_ble_eq_true rfl) (by decide) dX2_writeForetold_159 (fun v w hp => ?_)
                obtain ⟨B5, p5, rfl, rfl, h159⟩ := hp
                refine j_norm (lv' := [(0, .ref h0), (1, .ref g0), (2, .ref w0), (3, .int (iI (n / 2 ^ p.toNat))), (4, .int (iI j))]) (st' := []) (ws' := [(h0, oX2 c0 a0 n ch tn bi s0 r0 sb), (c0, oX7 v0 w0 x0 P0 t0), (v0, oX10 hv vn b w), (hv, aI x.g 400 v), (s0, oX0 h1 len fa p5), (h1, aI x.g 2400 B5), (g0, oX8 gk gx 7 ws gbi p), (gk, aI x.g 16 K), (gx, aI x.g 16 X), (w0, oX1 wc oo os), (wc, aI x.g 4 oc)]) [0, 1, 2, 3, 4] [0, 1, 2, 3, 9, 10, 4, 5, 6, 7, 8] rfl rfl (by decide) rfl ?_
                refine j_norm (lv' := [(0, .ref h0), (1, .ref g0), (2, .ref w0), (3, .int (iI (n / 2 ^ p.toNat))), (4, .int (iI j))]) (st' := []) (ws' := [(h0, oX2 c0 a0 n ch tn bi s0 r0 sb), (c0, oX7 v0 w0 x0 P0 t0), (v0, oX10 hv vn b w), (hv, aI x.g 400 v), (s0, oX0 h1 len fa p5), (h1, aI x.g 2400 B5), (g0, oX8 gk gx 7 ws gbi p), (gk, aI x.g 16 K), (gx, aI x.g 16 X), (w0, oX1 wc oo os), (wc, aI x.g 4 oc)]) [0, 1, 2, 3, 4] [0, 1, 2, 3, 4, 5, 6, 7, 8, 9, 10] rfl rfl (by decide) rfl ?_
                exact J162 p5 B5 ⟨by rw [kB_15 c_144]; exact wrote_app h132.1 h159.1 (by omega) (by rw [nb_len]; omega), by rw [kB_len15 c_144]; omega⟩
        refine j_norm (lv' := [(0, .ref h0), (1, .ref g0), (2, .ref w0), (3, .int (iI (n / 2 ^ p.toNat))), (4, .int (iI 0))]) (st' := []) (ws' := [(h0, oX2 c0 a0 n ch tn bi s0 r0 sb), (c0, oX7 v0 w0 x0 P0 t0), (v0, oX10 hv vn b w), (hv, aI x.g 400 v), (s0, oX0 h1 len fa pos9), (h1, aI x.g 2400 B9), (g0, oX8 gk gx 7 ws gbi p), (gk, aI x.g 16 K), (gx, aI x.g 16 X), (w0, oX1 wc oo os), (wc, aI x.g 4 oc)]) [2, 3, 4, 1, 0] [0, 1, 2, 3, 4, 5, 6, 7, 8, 9, 10] rfl rfl (by decide) rfl ?_
        exact L111 _ 0 pos9 B9 ⟨by decide, by omega, by show pos9 = pos9 + ((0 : Nat) : Int); omega, wrote_nil h95.1.1⟩ (Nat.lt_succ_self _)
      · skip
        refine j_aload_n jb dX2_writeForetold_57 0 rfl ?_
        refine j_get jb f_X2_27 dX2_writeForetold_58 0 rfl rfl ?_
        refine j_aload_n jb dX2_writeForetold_61 2 rfl ?_
        refine j_get jb f_X2_141 dX2_writeForetold_62 9 rfl rfl ?_
        refine j_iload_n jb dX2_writeForetold_65 3 rfl ?_
        refine j_iald jb dX2_writeForetold_66 10 rfl (by omega) (by decide) ?_
        refine j_bipush jb dX2_writeForetold_67 (by decide) ?_
        refine j_callV (wr := [(h0, oX2 c0 a0 n ch tn bi s0 r0 sb), (c0, oX7 v0 w0 x0 P0 t0), (v0, oX10 hv vn b w), (hv, aI x.g 400 v), (g0, oX8 gk gx 7 ws gbi p), (gk, aI x.g 16 K), (gx, aI x.g 16 X), (w0, oX1 wc oo os), (wc, aI x.g 4 oc)]) jb k_X0_write i_X0_write s_X0_write l_X2_83 (C_X0_write x.l x.g s0 h1 B2 len fa q (oc i) 10 hk4.1 (by have := hcf i hk1 (by omega); omega) (by decide) (by have := cofB_len oc i.toNat; omega)) 4 2 rfl rfl rfl [4, 5] [0, 1, 2, 3, 6, 7, 8, 9, 10] (by decide) rfl rfl (by decide) (by decide) rfl rfl (Nat.le_of_ble_eq_true rfl) (by decide) dX2_writeForetold_69 (fun v w hp => ?_)
        obtain ⟨Bc, posc, rfl, rfl, h69⟩ := hp
        refine j_norm (lv' := [(0, .ref h0), (1, .ref g0), (2, .ref w0), (3, .int (iI i))]) (st' := []) (ws' := [(h0, oX2 c0 a0 n ch tn bi s0 r0 sb), (c0, oX7 v0 w0 x0 P0 t0), (v0, oX10 hv vn b w), (hv, aI x.g 400 v), (s0, oX0 h1 len fa posc), (h1, aI x.g 2400 Bc), (g0, oX8 gk gx 7 ws gbi p), (gk, aI x.g 16 K), (gx, aI x.g 16 X), (w0, oX1 wc oo os), (wc, aI x.g 4 oc)]) [0, 1, 2, 3] [0, 1, 2, 3, 9, 10, 4, 5, 6, 7, 8] rfl rfl (by decide) rfl ?_
        refine j_iinc (lv' := [(3, .int (iI (i + 1))), (0, .ref h0), (1, .ref g0), (2, .ref w0)]) jb dX2_writeForetold_72 3 rfl (by decide) rfl ?_
        refine j_goto (tgt := 49) jb dX2_writeForetold_75 (by decide) ?_
        refine j_norm (lv' := [(0, .ref h0), (1, .ref g0), (2, .ref w0), (3, .int (iI (i + 1)))]) (st' := []) (ws' := [(h0, oX2 c0 a0 n ch tn bi s0 r0 sb), (c0, oX7 v0 w0 x0 P0 t0), (v0, oX10 hv vn b w), (hv, aI x.g 400 v), (s0, oX0 h1 len fa posc), (h1, aI x.g 2400 Bc), (g0, oX8 gk gx 7 ws gbi p), (gk, aI x.g 16 K), (gx, aI x.g 16 X), (w0, oX1 wc oo os), (wc, aI x.g 4 oc)]) [1, 2, 3, 0] [0, 1, 2, 3, 4, 5, 6, 7, 8, 9, 10] rfl rfl (by decide) rfl ?_
        exact ih49 (i + 1) posc Bc (by have z := cofB_next (c := oc) hk1; exact ⟨by omega, by omega, by rw [z, List.length_append, nb_len]; omega, by rw [z]; exact wrote_app hk4 h69.1 (by omega) hk3⟩) (by omega)
  refine j_norm (lv' := [(0, .ref h0), (1, .ref g0), (2, .ref w0), (3, .int (iI 0))]) (st' := []) (ws' := [(h0, oX2 c0 a0 n ch tn bi s0 r0 sb), (c0, oX7 v0 w0 x0 P0 t0), (v0, oX10 hv vn b w), (hv, aI x.g 400 v), (s0, oX0 h1 len fa posa), (h1, aI x.g 2400 Ba), (g0, oX8 gk gx 7 ws gbi p), (gk, aI x.g 16 K), (gx, aI x.g 16 X), (w0, oX1 wc oo os), (wc, aI x.g 4 oc)]) [2, 3, 1, 0] [0, 1, 2, 3, 4, 5, 6, 7, 8, 9, 10] rfl rfl (by decide) rfl ?_
  exact L49 _ 0 posa Ba ⟨by decide, by omega, by show posa = posa + ((0 : Nat) : Int); omega, wrote_nil h44.1.1⟩ (Nat.lt_succ_self _)

