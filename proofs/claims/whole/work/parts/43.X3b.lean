set_option maxHeartbeats 4000000 in
set_option maxRecDepth 100000 in
theorem C_X3_readFrame (l : Launch) (g : GG) (h0 s0 w0 h1 x0 xc j0 r0 k0 q0 q1 : Nat) (len fa pos n ch tn sb bh pl rn rq o sh : Int) (B kk f0 f1 cf : Int → Int) (hB : isBytes B) (hl : 0 ≤ len ∧ len ≤ 2400) (hpl : 0 ≤ pl ∧ pl < len) (hcf : cfOk cf) : Ctr l g yX3_readFrame cX3_readFrame 4 (some .int) 6 180 0 0 [.ref h0, .int (iI pl), .ref j0] [(h0, oX3 s0 w0), (s0, oX0 h1 len fa pos), (h1, aI g 2400 B), (w0, oX9 s0 x0 rn rq), (x0, oX1 xc o sh), (xc, aI g 4 cf), (j0, oX4 r0 k0 n ch tn sb bh), (r0, aG g 2 (rf2 q0 q1)), (k0, aI g 2 kk), (q0, aI g 400 f0), (q1, aI g 400 f1)] (fun vv ww => ∃ (fa2 pos2 n2 ch2 tn2 sb2 bh2 rn2 rq2 o2 sh2 : Int) (k2 e0 e1 c2 : Int → Int), vv = some (.int (iI fa2)) ∧ ww = [(h0, oX3 s0 w0), (s0, oX0 h1 len fa2 pos2), (h1, aI g 2400 B), (w0, oX9 s0 x0 rn2 rq2), (x0, oX1 xc o2 sh2), (xc, aI g 4 c2), (j0, oX4 r0 k0 n2 ch2 tn2 sb2 bh2), (r0, aG g 2 (rf2 q0 q1)), (k0, aI g 2 k2), (q0, aI g 400 e0), (q1, aI g 400 e1)] ∧ isF (frR B len pl) fa2 n2 ch2 tn2 sb2 (k2 0) (k2 1) bh2 e0 e1 ∧ (0 ≤ fa2 ∧ fa2 ≤ 20) ∧ cfOk c2 ∧ (fa2 = 0 → (1 ≤ n2 ∧ n2 ≤ 400) ∧ (ch2 = 1 ∨ ch2 = 2) ∧ (0 ≤ tn2 ∧ tn2 ≤ 3) ∧ (1 ≤ sb2 ∧ sb2 ≤ 16) ∧ (ch2 = 1 → tn2 = 0) ∧ (pl < bh2 ∧ bh2 ≤ len) ∧ fitOn e0 sb2 n2 ∧ (ch2 = 2 → fitOn e1 sb2 n2))) := by
  refine Ctr.of [(0, .ref h0), (1, .int (iI pl)), (2, .ref j0)] (by decide) (Nat.le_of_ble_eq_true rfl) rfl ?_
  intro x hxl hxg jb jr hin
  subst hxl; subst hxg
  obtain ⟨R0, hR0⟩ : ∃ R : Int × FB, R = frR B len pl := ⟨_, rfl⟩
  refine j_aload_n jb dX3_readFrame_0 0 rfl ?_
  refine j_get jb f_X3_9 dX3_readFrame_1 0 rfl rfl ?_
  refine j_iload_n jb dX3_readFrame_4 1 rfl ?_
  refine j_callV (wr := [(h0, oX3 s0 w0), (h1, aI x.g 2400 B), (w0, oX9 s0 x0 rn rq), (x0, oX1 xc o sh), (xc, aI x.g 4 cf), (j0, oX4 r0 k0 n ch tn sb bh), (r0, aG x.g 2 (rf2 q0 q1)), (k0, aI x.g 2 kk), (q0, aI x.g 400 f0), (q1, aI x.g 400 f1)]) jb k_X0_begin i_X0_begin s_X0_begin l_X3_24 (C_X0_begin x.l x.g s0 h1 len fa pos pl ) 1 2 rfl rfl rfl [1] [0, 2, 3, 4, 5, 6, 7, 8, 9, 10] (by decide) rfl rfl (by decide) (by decide) rfl rfl (Nat.le_of_ble_eq_true rfl) (by decide) dX3_readFrame_5 (fun v w hp => ?_)
  obtain ⟨rfl, rfl⟩ := hp
  refine j_norm (lv' := [(0, .ref h0), (1, .int (iI pl)), (2, .ref j0)]) (st' := []) (ws' := [(h0, oX3 s0 w0), (s0, oX0 h1 len 0 (8 * pl)), (h1, aI x.g 2400 B), (w0, oX9 s0 x0 rn rq), (x0, oX1 xc o sh), (xc, aI x.g 4 cf), (j0, oX4 r0 k0 n ch tn sb bh), (r0, aG x.g 2 (rf2 q0 q1)), (k0, aI x.g 2 kk), (q0, aI x.g 400 f0), (q1, aI x.g 400 f1)]) [0, 1, 2] [0, 10, 1, 2, 3, 4, 5, 6, 7, 8, 9] rfl rfl (by decide) rfl ?_
  refine j_aload_n jb dX3_readFrame_8 0 rfl ?_
  refine j_aload_n jb dX3_readFrame_9 2 rfl ?_
  refine j_callV (wr := [(w0, oX9 s0 x0 rn rq), (x0, oX1 xc o sh), (xc, aI x.g 4 cf), (r0, aG x.g 2 (rf2 q0 q1)), (k0, aI x.g 2 kk), (q0, aI x.g 400 f0), (q1, aI x.g 400 f1)]) jb k_X3_readHead i_X3_readHead s_X3_readHead l_X3_30 (C_X3_readHead x.l x.g h0 s0 w0 h1 j0 r0 k0 len 0 (8 * pl) n ch tn sb bh B rfl hB (by omega) (by decide) (by omega)) 0 5 rfl rfl rfl [0, 1, 2, 6] [3, 4, 5, 7, 8, 9, 10] (by decide) rfl rfl (by decide) (by decide) rfl rfl (Nat.le_of_ble_eq_true rfl) (by decide) dX3_readFrame_10 (fun v w hp => ?_)
  obtain ⟨fh, p1, n2, ch2, tn2, sb2, rfl, rfl, h10⟩ := hp
  refine j_norm (lv' := [(0, .ref h0), (1, .int (iI pl)), (2, .ref j0)]) (st' := []) (ws' := [(h0, oX3 s0 w0), (s0, oX0 h1 len fh p1), (h1, aI x.g 2400 B), (w0, oX9 s0 x0 rn rq), (x0, oX1 xc o sh), (xc, aI x.g 4 cf), (j0, oX4 r0 k0 n2 ch2 tn2 sb2 bh), (r0, aG x.g 2 (rf2 q0 q1)), (k0, aI x.g 2 kk), (q0, aI x.g 400 f0), (q1, aI x.g 400 f1)]) [0, 1, 2] [7, 8, 9, 0, 1, 2, 10, 3, 4, 5, 6] rfl rfl (by decide) rfl ?_
  have hc1 : contI R0 fh (thenR (rowR B len n2 (rbF tn2 sb2) z0 p1 z0) (fun p1x v0 => (if ch2 = 2 then thenR (rowR B len n2 (rbS tn2 sb2) z0 p1x z0) (fun p2 v1 => endR B len pl n2 ch2 tn2 sb2 (num B p1 3) (num B p1x 3) p2 v0 v1) else endR B len pl n2 ch2 tn2 sb2 (num B p1 3) (-1) p1x v0 z0))) := by (rw [hR0]; exact h10.1 _)
  refine j_aload_n jb dX3_readFrame_13 2 rfl ?_
  refine j_get jb f_X3_34 dX3_readFrame_14 6 rfl rfl ?_
  refine j_iconst jb dX3_readFrame_17 ?_
  refine j_iconst jb dX3_readFrame_18 ?_
  refine j_iast (ws' := [(h0, oX3 s0 w0), (s0, oX0 h1 len fh p1), (h1, aI x.g 2400 B), (w0, oX9 s0 x0 rn rq), (x0, oX1 xc o sh), (xc, aI x.g 4 cf), (j0, oX4 r0 k0 n2 ch2 tn2 sb2 bh), (r0, aG x.g 2 (rf2 q0 q1)), (k0, aI x.g 2 (zup kk 1 (-1))), (q0, aI x.g 400 f0), (q1, aI x.g 400 f1)]) jb dX3_readFrame_19 8 rfl (by omega) (by decide) rfl ?_
  refine j_aload_n jb dX3_readFrame_20 0 rfl ?_
  refine j_get jb f_X3_9 dX3_readFrame_21 0 rfl rfl ?_
  refine j_get jb f_X3_40 dX3_readFrame_24 1 rfl rfl ?_
  have J70 : ∀ (fq pq rnq rqq oq shq : Int) (kq vq cq : Int → Int), ((0 ≤ fq ∧ fq ≤ 20) ∧ (0 ≤ pq ∧ pq ≤ 8 * len) ∧ cfOk cq ∧ (¬ fq = 0 → R0.1 = fq) ∧ (fq = 0 → ((1 ≤ n2 ∧ n2 ≤ 400) ∧ (ch2 = 1 ∨ ch2 = 2) ∧ (0 ≤ tn2 ∧ tn2 ≤ 3) ∧ (1 ≤ sb2 ∧ sb2 ≤ 16) ∧ (ch2 = 1 → tn2 = 0)) ∧ R0 = (if ch2 = 2 then thenR (rowR B len n2 (rbS tn2 sb2) z0 pq z0) (fun p2 v1 => endR B len pl n2 ch2 tn2 sb2 (num B p1 3) (num B pq 3) p2 (rowR B len n2 (rbF tn2 sb2) z0 p1 z0).2.2 v1) else endR B len pl n2 ch2 tn2 sb2 (num B p1 3) (-1) pq (rowR B len n2 (rbF tn2 sb2) z0 p1 z0).2.2 z0) ∧ 8 * pl ≤ pq ∧ eqOn vq (rowR B len n2 (rbF tn2 sb2) z0 p1 z0).2.2 0 n2 ∧ fitOn vq (rbF tn2 sb2) n2 ∧ kq 0 = num B p1 3 ∧ kq 1 = -1)) → JW x 0 0 70 [(0, .ref h0), (1, .int (iI pl)), (2, .ref j0)] [] [(h0, oX3 s0 w0), (s0, oX0 h1 len fq pq), (h1, aI x.g 2400 B), (w0, oX9 s0 x0 rnq rqq), (x0, oX1 xc oq shq), (xc, aI x.g 4 cq), (j0, oX4 r0 k0 n2 ch2 tn2 sb2 bh), (r0, aG x.g 2 (rf2 q0 q1)), (k0, aI x.g 2 kq), (q0, aI x.g 400 vq), (q1, aI x.g 400 f1)] := by
    intro fq pq rnq rqq oq shq kq vq cq hj70
    refine j_aload_n jb dX3_readFrame_70 0 rfl ?_
    refine j_get jb f_X3_9 dX3_readFrame_71 0 rfl rfl ?_
    refine j_get jb f_X3_40 dX3_readFrame_74 1 rfl rfl ?_
    have J128 : ∀ (fz pz rnz rqz oz shz : Int) (kz wz cz : Int → Int), ((0 ≤ fz ∧ fz ≤ 20) ∧ (0 ≤ pz ∧ pz ≤ 8 * len) ∧ cfOk cz ∧ (¬ fz = 0 → R0.1 = fz) ∧ (fz = 0 → ((1 ≤ n2 ∧ n2 ≤ 400) ∧ (ch2 = 1 ∨ ch2 = 2) ∧ (0 ≤ tn2 ∧ tn2 ≤ 3) ∧ (1 ≤ sb2 ∧ sb2 ≤ 16) ∧ (ch2 = 1 → tn2 = 0)) ∧ 8 * pl ≤ pz ∧ eqOn vq (rowR B len n2 (rbF tn2 sb2) z0 p1 z0).2.2 0 n2 ∧ fitOn vq (rbF tn2 sb2) n2 ∧ kz 0 = num B p1 3 ∧ ∃ uz : Int → Int, R0 = endR B len pl n2 ch2 tn2 sb2 (num B p1 3) (kz 1) pz (rowR B len n2 (rbF tn2 sb2) z0 p1 z0).2.2 uz ∧ (ch2 = 2 → eqOn wz uz 0 n2 ∧ fitOn wz (rbS tn2 sb2) n2))) → JW x 0 0 128 [(0, .ref h0), (1, .int (iI pl)), (2, .ref j0)] [] [(h0, oX3 s0 w0), (s0, oX0 h1 len fz pz), (h1, aI x.g 2400 B), (w0, oX9 s0 x0 rnz rqz), (x0, oX1 xc oz shz), (xc, aI x.g 4 cz), (j0, oX4 r0 k0 n2 ch2 tn2 sb2 bh), (r0, aG x.g 2 (rf2 q0 q1)), (k0, aI x.g 2 kz), (q0, aI x.g 400 vq), (q1, aI x.g 400 wz)] := by
      intro fz pz rnz rqz oz shz kz wz cz hj128
      refine j_aload_n jb dX3_readFrame_128 0 rfl ?_
      refine j_get jb f_X3_9 dX3_readFrame_129 0 rfl rfl ?_
      refine j_get jb f_X3_40 dX3_readFrame_132 1 rfl rfl ?_
      refine j_if_ne (tgt := 144) jb dX3_readFrame_135 (by decide) (by omega) (fun c_135 => ?_) (fun c_135 => ?_)
      · skip
        refine j_aload_n jb dX3_readFrame_144 0 rfl ?_
        refine j_get jb f_X3_9 dX3_readFrame_145 0 rfl rfl ?_
        refine j_get jb f_X3_40 dX3_readFrame_148 1 rfl rfl ?_
        refine j_norm (lv' := []) (st' := [.int (iI fz)]) (ws' := [(h0, oX3 s0 w0), (s0, oX0 h1 len fz pz), (h1, aI x.g 2400 B), (w0, oX9 s0 x0 rnz rqz), (x0, oX1 xc oz shz), (xc, aI x.g 4 cz), (j0, oX4 r0 k0 n2 ch2 tn2 sb2 bh), (r0, aG x.g 2 (rf2 q0 q1)), (k0, aI x.g 2 kz), (q0, aI x.g 400 vq), (q1, aI x.g 400 wz)]) [] [0, 1, 2, 3, 4, 5, 6, 7, 8, 9, 10] rfl rfl (by decide) rfl ?_
        exact j_iret jb jr dX3_readFrame_151 ⟨_, _, _, _, _, _, _, _, _, _, _, _, _, _, _, rfl, rfl, (by rw [← hR0]; first | exact ⟨⟨(hj128.2.2.2.1 c_135).symm, fun q => absurd q c_135⟩, hj128.1, hj128.2.2.1, fun q => absurd q c_135⟩ | exact ⟨by rw [hZ.2.2.2.2.1, hu1]; exact h141.1, h141.2.1, hj128.2.2.1, fun q => ⟨hZ.1.1, hZ.1.2.1, hZ.1.2.2.1, hZ.1.2.2.2.1, hZ.1.2.2.2.2, h141.2.2.2 q⟩⟩)⟩
      · skip
        have hfz0 : fz = 0 := c_135
        have hZ := hj128.2.2.2.2 hfz0
        obtain ⟨uz, hu1, hu2⟩ := hZ.2.2.2.2.2
        refine j_aload_n jb dX3_readFrame_138 0 rfl ?_
        refine j_iload_n jb dX3_readFrame_139 1 rfl ?_
        refine j_aload_n jb dX3_readFrame_140 2 rfl ?_
        refine j_callV (wr := [(w0, oX9 s0 x0 rnz rqz), (x0, oX1 xc oz shz), (xc, aI x.g 4 cz), (k0, aI x.g 2 kz)]) jb k_X3_readEnd i_X3_readEnd s_X3_readEnd l_X3_74 (C_X3_readEnd x.l x.g h0 s0 w0 h1 j0 r0 k0 q0 q1 len fz pz n2 ch2 tn2 sb2 bh pl (num B p1 3) (kz 1) B vq wz ((rowR B len n2 (rbF tn2 sb2) z0 p1 z0).2.2) uz hfz0 hZ.1.1 hZ.1.2.1 hZ.1.2.2.1 hZ.1.2.2.2.1 hZ.1.2.2.2.2 ⟨hpl.1, hZ.2.1⟩ hZ.2.2.1 (fun q => (hu2 q).1) hZ.2.2.2.1 (fun q => (hu2 q).2) hB hl hj128.1 hj128.2.1) 0 5 rfl rfl rfl [0, 1, 2, 6, 7, 9, 10] [3, 4, 5, 8] (by decide) rfl rfl (by decide) (by decide) rfl rfl (Nat.le_of_ble_eq_true rfl) (by decide) dX3_readFrame_141 (fun v w hp => ?_)
        obtain ⟨fe, pe, bhe, ea, eb, rfl, rfl, h141⟩ := hp
        refine j_norm (lv' := [(0, .ref h0), (1, .int (iI pl)), (2, .ref j0)]) (st' := []) (ws' := [(h0, oX3 s0 w0), (s0, oX0 h1 len fe pe), (h1, aI x.g 2400 B), (w0, oX9 s0 x0 rnz rqz), (x0, oX1 xc oz shz), (xc, aI x.g 4 cz), (j0, oX4 r0 k0 n2 ch2 tn2 sb2 bhe), (r0, aG x.g 2 (rf2 q0 q1)), (k0, aI x.g 2 kz), (q0, aI x.g 400 ea), (q1, aI x.g 400 eb)]) [0, 1, 2] [4, 5, 6, 0, 1, 2, 7, 8, 3, 9, 10] rfl rfl (by decide) rfl ?_
        refine j_aload_n jb dX3_readFrame_144 0 rfl ?_
        refine j_get jb f_X3_9 dX3_readFrame_145 0 rfl rfl ?_
        refine j_get jb f_X3_40 dX3_readFrame_148 1 rfl rfl ?_
        refine j_norm (lv' := []) (st' := [.int (iI fe)]) (ws' := [(h0, oX3 s0 w0), (s0, oX0 h1 len fe pe), (h1, aI x.g 2400 B), (w0, oX9 s0 x0 rnz rqz), (x0, oX1 xc oz shz), (xc, aI x.g 4 cz), (j0, oX4 r0 k0 n2 ch2 tn2 sb2 bhe), (r0, aG x.g 2 (rf2 q0 q1)), (k0, aI x.g 2 kz), (q0, aI x.g 400 ea), (q1, aI x.g 400 eb)]) [] [0, 1, 2, 3, 4, 5, 6, 7, 8, 9, 10] rfl rfl (by decide) rfl ?_
        exact j_iret jb jr dX3_readFrame_151 ⟨_, _, _, _, _, _, _, _, _, _, _, _, _, _, _, rfl, rfl, (by rw [← hR0]; first | exact ⟨⟨(hj128.2.2.2.1 c_135).symm, fun q => absurd q c_135⟩, hj128.1, hj128.2.2.1, fun q => absurd q c_135⟩ | exact ⟨by rw [hZ.2.2.2.2.1, hu1]; exact h141.1, h141.2.1, hj128.2.2.1, fun q => ⟨hZ.1.1, hZ.1.2.1, hZ.1.2.2.1, hZ.1.2.2.2.1, hZ.1.2.2.2.2, h141.2.2.2 q⟩⟩)⟩
    refine j_if_ne (tgt := 128) jb dX3_readFrame_77 (by decide) (by omega) (fun c_77 => ?_) (fun c_77 => ?_)
    · skip
      refine j_norm (lv' := [(0, .ref h0), (1, .int (iI pl)), (2, .ref j0)]) (st' := []) (ws' := [(h0, oX3 s0 w0), (s0, oX0 h1 len fq pq), (h1, aI x.g 2400 B), (w0, oX9 s0 x0 rnq rqq), (x0, oX1 xc oq shq), (xc, aI x.g 4 cq), (j0, oX4 r0 k0 n2 ch2 tn2 sb2 bh), (r0, aG x.g 2 (rf2 q0 q1)), (k0, aI x.g 2 kq), (q0, aI x.g 400 vq), (q1, aI x.g 400 f1)]) [0, 1, 2] [0, 1, 2, 3, 4, 5, 6, 7, 8, 9, 10] rfl rfl (by decide) rfl ?_
      exact J128 fq pq rnq rqq oq shq kq f1 cq ⟨hj70.1, hj70.2.1, hj70.2.2.1, hj70.2.2.2.1, fun q => absurd q c_77⟩
    · skip
      have hfq0 : fq = 0 := c_77
      have hA := hj70.2.2.2.2 hfq0
      refine j_aload_n jb dX3_readFrame_80 2 rfl ?_
      refine j_get jb f_X3_68 dX3_readFrame_81 6 rfl rfl ?_
      refine j_iconst jb dX3_readFrame_84 ?_
      refine j_icmp_ne (tgt := 128) jb dX3_readFrame_85 (by decide) (by omega) (by omega) (fun c_85 => ?_) (fun c_85 => ?_)
      · skip
        refine j_norm (lv' := [(0, .ref h0), (1, .int (iI pl)), (2, .ref j0)]) (st' := []) (ws' := [(h0, oX3 s0 w0), (s0, oX0 h1 len fq pq), (h1, aI x.g 2400 B), (w0, oX9 s0 x0 rnq rqq), (x0, oX1 xc oq shq), (xc, aI x.g 4 cq), (j0, oX4 r0 k0 n2 ch2 tn2 sb2 bh), (r0, aG x.g 2 (rf2 q0 q1)), (k0, aI x.g 2 kq), (q0, aI x.g 400 vq), (q1, aI x.g 400 f1)]) [0, 1, 2] [0, 1, 2, 3, 4, 5, 6, 7, 8, 9, 10] rfl rfl (by decide) rfl ?_
        exact J128 fq pq rnq rqq oq shq kq f1 cq ⟨hj70.1, hj70.2.1, hj70.2.2.1, hj70.2.2.2.1, fun q => ⟨hA.1, hA.2.2.1, hA.2.2.2.1, hA.2.2.2.2.1, hA.2.2.2.2.2.1, z0, by rw [hA.2.1, if_neg c_85, hA.2.2.2.2.2.2], fun y => absurd y c_85⟩⟩
      · skip
        refine j_getsN jb jb.2.2.2.2.2.2.2.1.2.1.1 n_X3_71 dX3_readFrame_88 ?_
        refine j_aload_n jb dX3_readFrame_91 2 rfl ?_
        refine j_get jb f_X3_47 dX3_readFrame_92 6 rfl rfl ?_
        refine j_tald jb jb.2.2.2.2.2.2.2.1.2.1.2 (by have := hA.1.2.2.1; omega) (by decide) dX3_readFrame_95 ?_
        refine j_aload_n jb dX3_readFrame_96 2 rfl ?_
        refine j_get jb f_X3_50 dX3_readFrame_97 6 rfl rfl ?_
        refine j_callSN (wr := [(h0, oX3 s0 w0), (s0, oX0 h1 len fq pq), (h1, aI x.g 2400 B), (w0, oX9 s0 x0 rnq rqq), (x0, oX1 xc oq shq), (xc, aI x.g 4 cq), (j0, oX4 r0 k0 n2 ch2 tn2 sb2 bh), (r0, aG x.g 2 (rf2 q0 q1)), (k0, aI x.g 2 kq), (q0, aI x.g 400 vq), (q1, aI x.g 400 f1)]) jb k_X11_bitsOfRow t_X11_bitsOfRow n_X3_53 (C_X11_bitsOfRow x.l x.g (zSecond tn2.toNat) sb2 (by have := zS_in tn2 hA.1.2.2.1; omega)) [] [0, 1, 2, 3, 4, 5, 6, 7, 8, 9, 10] (by decide) rfl rfl (by decide) (by decide) rfl rfl (Nat.le_of_ble_eq_true rfl) (by decide) dX3_readFrame_100 (fun v w hp => ?_)
        obtain ⟨rb2, rfl, rfl, h100⟩ := hp
        refine j_norm (lv' := [(0, .ref h0), (1, .int (iI pl)), (2, .ref j0)]) (st' := [.int (iI rb2)]) (ws' := [(h0, oX3 s0 w0), (s0, oX0 h1 len fq pq), (h1, aI x.g 2400 B), (w0, oX9 s0 x0 rnq rqq), (x0, oX1 xc oq shq), (xc, aI x.g 4 cq), (j0, oX4 r0 k0 n2 ch2 tn2 sb2 bh), (r0, aG x.g 2 (rf2 q0 q1)), (k0, aI x.g 2 kq), (q0, aI x.g 400 vq), (q1, aI x.g 400 f1)]) [0, 1, 2] [0, 1, 2, 3, 4, 5, 6, 7, 8, 9, 10] rfl rfl (by decide) rfl ?_
        have hrb2 : rb2 = rbS tn2 sb2 := h100
        have hrb2i : 1 ≤ rb2 ∧ rb2 ≤ 17 := by (rw [hrb2]; exact (rb_in tn2 sb2 hA.1.2.2.2.1).2)
        refine j_istore_n (lv' := [(3, .int (iI rb2)), (0, .ref h0), (1, .int (iI pl)), (2, .ref j0)]) jb dX3_readFrame_103 rfl (by decide) rfl ?_
        refine j_aload_n jb dX3_readFrame_104 3 rfl ?_
        refine j_get jb f_X3_34 dX3_readFrame_105 6 rfl rfl ?_
        refine j_iconst jb dX3_readFrame_108 ?_
        refine j_aload_n jb dX3_readFrame_109 1 rfl ?_
        refine j_get jb f_X3_20 dX3_readFrame_110 0 rfl rfl ?_
        refine j_aload_n jb dX3_readFrame_113 3 rfl ?_
        refine j_get jb f_X3_57 dX3_readFrame_114 6 rfl rfl ?_
        refine j_iconst jb dX3_readFrame_117 ?_
        refine j_aaldG (b := q1) jb dX3_readFrame_118 7 rfl (by decide) (by decide) rfl ?_
        refine j_aload_n jb dX3_readFrame_119 3 rfl ?_
        refine j_get jb f_X3_61 dX3_readFrame_120 6 rfl rfl ?_
        refine j_iload_n jb dX3_readFrame_123 0 rfl ?_
        refine j_callV (wr := [(h0, oX3 s0 w0), (j0, oX4 r0 k0 n2 ch2 tn2 sb2 bh), (r0, aG x.g 2 (rf2 q0 q1)), (k0, aI x.g 2 kq), (q0, aI x.g 400 vq)]) jb k_X9_readRow i_X9_readRow s_X9_readRow l_X3_64 (C_X9_readRow x.l x.g w0 s0 h1 x0 xc q1 rnq rqq len fq pq oq shq n2 rb2 B cq f1 hA.1.1 hrb2i hj70.2.2.1 hfq0 hB hl (by omega) hj70.2.1) 3 11 rfl rfl rfl [3, 1, 2, 4, 5, 10] [0, 6, 7, 8, 9] (by decide) rfl rfl (by decide) (by decide) rfl rfl (Nat.le_of_ble_eq_true rfl) (by decide) dX3_readFrame_124 (fun v w hp => ?_)
        obtain ⟨kd1, fr2, p3, b3x, o3x, sh3x, v3x, c3x, rfl, rfl, h124⟩ := hp
        refine j_norm (lv' := [(3, .int (iI rb2)), (0, .ref h0), (1, .int (iI pl)), (2, .ref j0)]) (st' := [.int (iI kd1), .int (iI 1), .ref k0]) (ws' := [(h0, oX3 s0 w0), (s0, oX0 h1 len fr2 p3), (h1, aI x.g 2400 B), (w0, oX9 s0 x0 n2 b3x), (x0, oX1 xc o3x sh3x), (xc, aI x.g 4 c3x), (j0, oX4 r0 k0 n2 ch2 tn2 sb2 bh), (r0, aG x.g 2 (rf2 q0 q1)), (k0, aI x.g 2 kq), (q0, aI x.g 400 vq), (q1, aI x.g 400 v3x)]) [0, 1, 2, 3] [0, 6, 7, 5, 8, 9, 1, 2, 3, 4, 10] rfl rfl (by decide) rfl ?_
        rw [hrb2] at h124
        have hc3 : contI R0 fq (thenR (rowR B len n2 (rbS tn2 sb2) z0 pq z0) (fun p2 v1 => endR B len pl n2 ch2 tn2 sb2 (num B p1 3) (num B pq 3) p2 (rowR B len n2 (rbF tn2 sb2) z0 p1 z0).2.2 v1)) := cI_0 hfq0 (by rw [hA.2.1, if_pos c_85])
        have hc4 := cI_row hc3 hfq0 h124.1
        have hg3 := @rowR_ge B z0 len n2 (rbS tn2 sb2) pq z0
        refine j_iast (ws' := [(h0, oX3 s0 w0), (s0, oX0 h1 len fr2 p3), (h1, aI x.g 2400 B), (w0, oX9 s0 x0 n2 b3x), (x0, oX1 xc o3x sh3x), (xc, aI x.g 4 c3x), (j0, oX4 r0 k0 n2 ch2 tn2 sb2 bh), (r0, aG x.g 2 (rf2 q0 q1)), (k0, aI x.g 2 (zup kq 1 kd1)), (q0, aI x.g 400 vq), (q1, aI x.g 400 v3x)]) jb dX3_readFrame_127 8 rfl (by omega) (by decide) rfl ?_
        refine j_norm (lv' := [(0, .ref h0), (1, .int (iI pl)), (2, .ref j0)]) (st' := []) (ws' := [(h0, oX3 s0 w0), (s0, oX0 h1 len fr2 p3), (h1, aI x.g 2400 B), (w0, oX9 s0 x0 n2 b3x), (x0, oX1 xc o3x sh3x), (xc, aI x.g 4 c3x), (j0, oX4 r0 k0 n2 ch2 tn2 sb2 bh), (r0, aG x.g 2 (rf2 q0 q1)), (k0, aI x.g 2 (zup kq 1 kd1)), (q0, aI x.g 400 vq), (q1, aI x.g 400 v3x)]) [1, 2, 3] [0, 1, 2, 3, 4, 5, 6, 7, 8, 9, 10] rfl rfl (by decide) rfl ?_
        exact J128 fr2 p3 n2 b3x o3x sh3x (zup kq 1 kd1) v3x c3x ⟨h124.2.1, h124.2.2.1, h124.2.2.2.1, fun q => hc4.2 q, fun q => ⟨hA.1, by have z := (h124.1.2 q).1; have y := hg3 (by have := h124.1.1; omega); have := hA.2.2.1; omega, hA.2.2.2.1, hA.2.2.2.2.1, by rw [zup_n (by decide)]; exact hA.2.2.2.2.2.1, _, by rw [hc4.1 q, zup_s, (h124.2.2.2.2.2 q).2], fun _ => ⟨(h124.1.2 q).2, (h124.2.2.2.2.2 q).1⟩⟩⟩
  refine j_if_ne (tgt := 70) jb dX3_readFrame_27 (by decide) (by omega) (fun c_27 => ?_) (fun c_27 => ?_)
  · skip
    refine j_norm (lv' := [(0, .ref h0), (1, .int (iI pl)), (2, .ref j0)]) (st' := []) (ws' := [(h0, oX3 s0 w0), (s0, oX0 h1 len fh p1), (h1, aI x.g 2400 B), (w0, oX9 s0 x0 rn rq), (x0, oX1 xc o sh), (xc, aI x.g 4 cf), (j0, oX4 r0 k0 n2 ch2 tn2 sb2 bh), (r0, aG x.g 2 (rf2 q0 q1)), (k0, aI x.g 2 (zup kk 1 (-1))), (q0, aI x.g 400 f0), (q1, aI x.g 400 f1)]) [0, 1, 2] [0, 1, 2, 3, 4, 5, 6, 7, 8, 9, 10] rfl rfl (by decide) rfl ?_
    exact J70 fh p1 rn rq o sh (zup kk 1 (-1)) f0 cf ⟨h10.2.1, h10.2.2.1, hcf, fun _ => hc1.2 c_27, fun q => absurd q c_27⟩
  · skip
    have hf0 : fh = 0 := c_27
    have hh := h10.2.2.2 hf0
    refine j_getsN jb jb.2.2.2.2.2.2.2.1.1.1 n_X3_44 dX3_readFrame_30 ?_
    refine j_aload_n jb dX3_readFrame_33 2 rfl ?_
    refine j_get jb f_X3_47 dX3_readFrame_34 6 rfl rfl ?_
    refine j_tald jb jb.2.2.2.2.2.2.2.1.1.2 (by have := hh.2.2.2.1; omega) (by decide) dX3_readFrame_37 ?_
    refine j_aload_n jb dX3_readFrame_38 2 rfl ?_
    refine j_get jb f_X3_50 dX3_readFrame_39 6 rfl rfl ?_
    refine j_callSN (wr := [(h0, oX3 s0 w0), (s0, oX0 h1 len fh p1), (h1, aI x.g 2400 B), (w0, oX9 s0 x0 rn rq), (x0, oX1 xc o sh), (xc, aI x.g 4 cf), (j0, oX4 r0 k0 n2 ch2 tn2 sb2 bh), (r0, aG x.g 2 (rf2 q0 q1)), (k0, aI x.g 2 (zup kk 1 (-1))), (q0, aI x.g 400 f0), (q1, aI x.g 400 f1)]) jb k_X11_bitsOfRow t_X11_bitsOfRow n_X3_53 (C_X11_bitsOfRow x.l x.g (zFirst tn2.toNat) sb2 (by have := zF_in tn2 hh.2.2.2.1; omega)) [] [0, 1, 2, 3, 4, 5, 6, 7, 8, 9, 10] (by decide) rfl rfl (by decide) (by decide) rfl rfl (Nat.le_of_ble_eq_true rfl) (by decide) dX3_readFrame_42 (fun v w hp => ?_)
    obtain ⟨rb1, rfl, rfl, h42⟩ := hp
    refine j_norm (lv' := [(0, .ref h0), (1, .int (iI pl)), (2, .ref j0)]) (st' := [.int (iI rb1)]) (ws' := [(h0, oX3 s0 w0), (s0, oX0 h1 len fh p1), (h1, aI x.g 2400 B), (w0, oX9 s0 x0 rn rq), (x0, oX1 xc o sh), (xc, aI x.g 4 cf), (j0, oX4 r0 k0 n2 ch2 tn2 sb2 bh), (r0, aG x.g 2 (rf2 q0 q1)), (k0, aI x.g 2 (zup kk 1 (-1))), (q0, aI x.g 400 f0), (q1, aI x.g 400 f1)]) [0, 1, 2] [0, 1, 2, 3, 4, 5, 6, 7, 8, 9, 10] rfl rfl (by decide) rfl ?_
    have hrb1 : rb1 = rbF tn2 sb2 := h42
    have hrb1i : 1 ≤ rb1 ∧ rb1 ≤ 17 := by (rw [hrb1]; exact (rb_in tn2 sb2 hh.2.2.2.2.1).1)
    refine j_istore_n (lv' := [(3, .int (iI rb1)), (0, .ref h0), (1, .int (iI pl)), (2, .ref j0)]) jb dX3_readFrame_45 rfl (by decide) rfl ?_
    refine j_aload_n jb dX3_readFrame_46 3 rfl ?_
    refine j_get jb f_X3_34 dX3_readFrame_47 6 rfl rfl ?_
    refine j_iconst jb dX3_readFrame_50 ?_
    refine j_aload_n jb dX3_readFrame_51 1 rfl ?_
    refine j_get jb f_X3_20 dX3_readFrame_52 0 rfl rfl ?_
    refine j_aload_n jb dX3_readFrame_55 3 rfl ?_
    refine j_get jb f_X3_57 dX3_readFrame_56 6 rfl rfl ?_
    refine j_iconst jb dX3_readFrame_59 ?_
    refine j_aaldG (b := q0) jb dX3_readFrame_60 7 rfl (by decide) (by decide) rfl ?_
    refine j_aload_n jb dX3_readFrame_61 3 rfl ?_
    refine j_get jb f_X3_61 dX3_readFrame_62 6 rfl rfl ?_
    refine j_iload_n jb dX3_readFrame_65 0 rfl ?_
    refine j_callV (wr := [(h0, oX3 s0 w0), (j0, oX4 r0 k0 n2 ch2 tn2 sb2 bh), (r0, aG x.g 2 (rf2 q0 q1)), (k0, aI x.g 2 (zup kk 1 (-1))), (q1, aI x.g 400 f1)]) jb k_X9_readRow i_X9_readRow s_X9_readRow l_X3_64 (C_X9_readRow x.l x.g w0 s0 h1 x0 xc q0 rn rq len fh p1 o sh n2 rb1 B cf f0 hh.2.1 hrb1i hcf hf0 hB hl (by omega) h10.2.2.1) 3 11 rfl rfl rfl [3, 1, 2, 4, 5, 9] [0, 6, 7, 8, 10] (by decide) rfl rfl (by decide) (by decide) rfl rfl (Nat.le_of_ble_eq_true rfl) (by decide) dX3_readFrame_66 (fun v w hp => ?_)
    obtain ⟨kd0, fr1, p2, b2x, o2x, sh2x, v2x, c2x, rfl, rfl, h66⟩ := hp
    refine j_norm (lv' := [(3, .int (iI rb1)), (0, .ref h0), (1, .int (iI pl)), (2, .ref j0)]) (st' := [.int (iI kd0), .int (iI 0), .ref k0]) (ws' := [(h0, oX3 s0 w0), (s0, oX0 h1 len fr1 p2), (h1, aI x.g 2400 B), (w0, oX9 s0 x0 n2 b2x), (x0, oX1 xc o2x sh2x), (xc, aI x.g 4 c2x), (j0, oX4 r0 k0 n2 ch2 tn2 sb2 bh), (r0, aG x.g 2 (rf2 q0 q1)), (k0, aI x.g 2 (zup kk 1 (-1))), (q0, aI x.g 400 v2x), (q1, aI x.g 400 f1)]) [0, 1, 2, 3] [0, 6, 7, 5, 8, 9, 1, 2, 3, 10, 4] rfl rfl (by decide) rfl ?_
    rw [hrb1] at h66
    have hc2 := cI_row hc1 hf0 h66.1
    have hg2 := @rowR_ge B z0 len n2 (rbF tn2 sb2) p1 z0
    refine j_iast (ws' := [(h0, oX3 s0 w0), (s0, oX0 h1 len fr1 p2), (h1, aI x.g 2400 B), (w0, oX9 s0 x0 n2 b2x), (x0, oX1 xc o2x sh2x), (xc, aI x.g 4 c2x), (j0, oX4 r0 k0 n2 ch2 tn2 sb2 bh), (r0, aG x.g 2 (rf2 q0 q1)), (k0, aI x.g 2 (zup (zup kk 1 (-1)) 0 kd0)), (q0, aI x.g 400 v2x), (q1, aI x.g 400 f1)]) jb dX3_readFrame_69 8 rfl (by omega) (by decide) rfl ?_
    refine j_norm (lv' := [(0, .ref h0), (1, .int (iI pl)), (2, .ref j0)]) (st' := []) (ws' := [(h0, oX3 s0 w0), (s0, oX0 h1 len fr1 p2), (h1, aI x.g 2400 B), (w0, oX9 s0 x0 n2 b2x), (x0, oX1 xc o2x sh2x), (xc, aI x.g 4 c2x), (j0, oX4 r0 k0 n2 ch2 tn2 sb2 bh), (r0, aG x.g 2 (rf2 q0 q1)), (k0, aI x.g 2 (zup (zup kk 1 (-1)) 0 kd0)), (q0, aI x.g 400 v2x), (q1, aI x.g 400 f1)]) [1, 2, 3] [0, 1, 2, 3, 4, 5, 6, 7, 8, 9, 10] rfl rfl (by decide) rfl ?_
    exact J70 fr1 p2 n2 b2x o2x sh2x (zup (zup kk 1 (-1)) 0 kd0) v2x c2x ⟨h66.2.1, h66.2.2.1, h66.2.2.2.1, fun q => hc2.2 q, fun q => ⟨hh.2, hc2.1 q, by have z := (h66.1.2 q).1; have y := hg2 (by have := h66.1.1; omega); have := hh.1; omega, (h66.1.2 q).2, (h66.2.2.2.2.2 q).1, by rw [zup_s]; exact (h66.2.2.2.2.2 q).2, by rw [zup_n (by decide), zup_s]⟩⟩

