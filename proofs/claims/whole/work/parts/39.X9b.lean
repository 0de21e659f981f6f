set_option maxHeartbeats 4000000 in
set_option maxRecDepth 100000 in
theorem C_X9_readForetold_7 (l : Launch) (g : GG) (h0 s0 h1 x0 xc hv : Nat) (n b len fa pos o sh : Int) (B cf v : Int → Int) (hn : 1 ≤ n ∧ n ≤ 400) (hb : 1 ≤ b ∧ b ≤ 17) (hcf : cfOk cf) (hf0 : fa = 0) (hB : isBytes B) (hl : 0 ≤ len ∧ len ≤ 2400) (hfa : 0 ≤ fa ∧ fa ≤ 20) (hp : 0 ≤ pos ∧ pos ≤ 8 * len) : Ctr l g yX9_readForetold cX9_readForetold 7 none 4 120 0 0 [.ref h0, .ref hv, .int (iI 7)] [(h0, oX9 s0 x0 n b), (s0, oX0 h1 len fa pos), (h1, aI g 2400 B), (x0, oX1 xc o sh), (xc, aI g 4 cf), (hv, aI g 400 v)] (fun vv ww => ∃ (fa2 pos2 o2 sh2 : Int) (v2 c2 : Int → Int), vv = none ∧ ww = [(h0, oX9 s0 x0 n b), (s0, oX0 h1 len fa2 pos2), (h1, aI g 2400 B), (x0, oX1 xc o2 sh2), (xc, aI g 4 c2), (hv, aI g 400 v2)] ∧ isR (foreR B len n b 7 cf pos v) fa2 pos2 v2 ∧ (0 ≤ fa2 ∧ fa2 ≤ 20) ∧ (0 ≤ pos2 ∧ pos2 ≤ 8 * len) ∧ cfOk c2 ∧ (fa2 = 0 → fitOn v2 b n)) := by
  refine Ctr.of [(0, .ref h0), (1, .ref hv), (2, .int (iI 7))] (by decide) (Nat.le_of_ble_eq_true rfl) rfl ?_
  intro x hxl hxg jb jr hin
  subst hxl; subst hxg
  obtain ⟨R0, hR0⟩ : ∃ R : RR, R = (foreR B len n b 7 cf pos v) := ⟨_, rfl⟩
  have hc00 : contI R0 fa (foreR B len n b 7 cf pos v) := cI_0 hf0 hR0
  have hc0 := hc00
  unfold foreR at hc0
  rw [if_pos rfl] at hc0
  refine j_iload_n jb dX9_readForetold_0 2 rfl ?_
  refine j_bipush jb dX9_readForetold_1 (by decide) ?_
  refine j_icmp_ne (tgt := 19) jb dX9_readForetold_3 (by decide) (by decide) (by decide) (fun h => absurd h (by decide)) (fun _ => ?_)
  refine j_iconst jb dX9_readForetold_6 ?_
  refine j_aload_n jb dX9_readForetold_7 0 rfl ?_
  refine j_get jb f_X9_18 dX9_readForetold_8 0 rfl rfl ?_
  refine j_iconst jb dX9_readForetold_11 ?_
  refine j_callV (wr := [(h0, oX9 s0 x0 n b), (x0, oX1 xc o sh), (xc, aI x.g 4 cf), (hv, aI x.g 400 v)]) jb k_X0_read i_X0_read s_X0_read l_X9_26 (C_X0_read x.l x.g s0 h1 B len fa pos 2 hB (by omega) (by omega) (by decide) (by omega)) 1 2 rfl rfl rfl [1, 2] [0, 3, 4, 5] (by decide) rfl rfl (by decide) (by decide) rfl rfl (Nat.le_of_ble_eq_true rfl) (by decide) dX9_readForetold_12 (fun v w hp => ?_)
  obtain ⟨q2, f1, p1, rfl, rfl, h12⟩ := hp
  refine j_norm (lv' := [(0, .ref h0), (1, .ref hv), (2, .int (iI 7))]) (st' := [.int (iI q2), .int (iI 1)]) (ws' := [(h0, oX9 s0 x0 n b), (s0, oX0 h1 len f1 p1), (h1, aI x.g 2400 B), (x0, oX1 xc o sh), (xc, aI x.g 4 cf), (hv, aI x.g 400 v)]) [0, 1, 2] [0, 4, 5, 1, 2, 3] rfl rfl (by decide) rfl ?_
  have hq2 := rd_in (M := 4) h12 (num_in B pos (2 : Int).toNat)
  have hc1 := cI_get (f := fun q p => fltR (n < 1 + q) 5 (getR B len 4 p (fun sh p2 => thenR (valsR B len 10 (1 + q).toNat 0 p2 cf) (fun p3 c2 => restR B len n b (1 + q) sh c2 p3 v)))) hc0 h12
  have hf1 := rd_fa h12
  have hp1 := rd_pos h12 (by decide) hp
  refine j_iadd jb dX9_readForetold_15 ?_
  refine j_goto (tgt := 22) jb dX9_readForetold_16 (by decide) ?_
  
  refine j_istore_n (lv' := [(3, .int (iI (1 + q2))), (0, .ref h0), (1, .ref hv), (2, .int (iI 7))]) jb dX9_readForetold_22 rfl (by decide) rfl ?_
  refine j_aload_n jb dX9_readForetold_23 1 rfl ?_
  refine j_get jb f_X9_18 dX9_readForetold_24 0 rfl rfl ?_
  refine j_iload_n jb dX9_readForetold_27 0 rfl ?_
  refine j_aload_n jb dX9_readForetold_28 1 rfl ?_
  refine j_get jb f_X9_22 dX9_readForetold_29 0 rfl rfl ?_
  have J40 : ∀ (wr : Int), ((wr = 1 ∧ n < (1 + q2)) ∨ (wr = 0 ∧ ¬ n < (1 + q2))) → JW x 0 0 40 [(0, .ref h0), (1, .ref hv), (2, .int (iI 7)), (3, .int (iI (1 + q2)))] [.int (iI wr), .ref s0] [(h0, oX9 s0 x0 n b), (s0, oX0 h1 len f1 p1), (h1, aI x.g 2400 B), (x0, oX1 xc o sh), (xc, aI x.g 4 cf), (hv, aI x.g 400 v)] := by
    intro wr hj40
    refine j_iconst jb dX9_readForetold_40 ?_
    refine j_callV (wr := [(h0, oX9 s0 x0 n b), (h1, aI x.g 2400 B), (x0, oX1 xc o sh), (xc, aI x.g 4 cf), (hv, aI x.g 400 v)]) jb k_X0_faultIf i_X0_faultIf s_X0_faultIf l_X9_32 (C_X0_faultIf x.l x.g s0 h1 len f1 p1 wr 5 (by have := wrIn hj40; omega) (by omega) (by omega)) 1 2 rfl rfl rfl [1] [0, 2, 3, 4, 5] (by decide) rfl rfl (by decide) (by decide) rfl rfl (Nat.le_of_ble_eq_true rfl) (by decide) dX9_readForetold_41 (fun v w hp => ?_)
    obtain ⟨f2, rfl, rfl, h41⟩ := hp
    refine j_norm (lv' := [(0, .ref h0), (1, .ref hv), (2, .int (iI 7)), (3, .int (iI (1 + q2)))]) (st' := [.int (iI (b2i (f2 ≠ 0)))]) (ws' := [(h0, oX9 s0 x0 n b), (s0, oX0 h1 len f2 p1), (h1, aI x.g 2400 B), (x0, oX1 xc o sh), (xc, aI x.g 4 cf), (hv, aI x.g 400 v)]) [0, 1, 2, 3] [0, 5, 1, 2, 3, 4] rfl rfl (by decide) rfl ?_
    have hc2 := cI_flt hc1 h41 (by decide) (wr1 hj40)
    have hf2 := flt_in h41 (by omega) (by decide)
    refine j_ifb_eq (tgt := 48) jb dX9_readForetold_44 (by decide) (fun c_44 => ?_) (fun c_44 => ?_)
    · skip
      have hf20 : f2 = 0 := by omega
      have hno := wr0 hj40 (flt_0 h41 (by decide) hf20).1
      refine j_iload_n jb dX9_readForetold_48 2 rfl ?_
      refine j_bipush jb dX9_readForetold_49 (by decide) ?_
      refine j_icmp_ne (tgt := 62) jb dX9_readForetold_51 (by decide) (by decide) (by decide) (fun h => absurd h (by decide)) (fun _ => ?_)
      refine j_aload_n jb dX9_readForetold_54 0 rfl ?_
      refine j_iload_n jb dX9_readForetold_55 3 rfl ?_
      refine j_callV (wr := [(hv, aI x.g 400 v)]) jb k_X9_readCoefficients i_X9_readCoefficients s_X9_readCoefficients l_X9_52 (C_X9_readCoefficients x.l x.g h0 s0 h1 x0 xc n b len f2 p1 o sh (1 + q2) B cf (by omega) hcf hB (by omega) (by omega) (by omega)) 0 11 rfl rfl rfl [0, 1, 2, 3, 4] [5] (by decide) rfl rfl (by decide) (by decide) rfl rfl (Nat.le_of_ble_eq_true rfl) (by decide) dX9_readForetold_56 (fun v w hp => ?_)
      obtain ⟨sh2, f3, p3, f4, p4, c2, rfl, rfl, h56⟩ := hp
      refine j_norm (lv' := [(0, .ref h0), (1, .ref hv), (2, .int (iI 7)), (3, .int (iI (1 + q2)))]) (st' := []) (ws' := [(h0, oX9 s0 x0 n b), (s0, oX0 h1 len f4 p4), (h1, aI x.g 2400 B), (x0, oX1 xc (1 + q2) sh2), (xc, aI x.g 4 c2), (hv, aI x.g 400 v)]) [0, 1, 2, 3] [1, 2, 3, 4, 5, 0] rfl rfl (by decide) rfl ?_
      have hc4 := cI_then (f := fun p3 c2 => restR B len n b (1 + q2) sh2 c2 p3 v) (cI_get (f := fun sh p2 => thenR (valsR B len 10 (1 + q2).toNat 0 p2 cf) (fun p3 c2 => restR B len n b (1 + q2) sh c2 p3 v)) hc2 h56.1) h56.2.1
      have hcc := h56.2.2.2.2.2
      have hf4 := h56.2.2.1
      have hp4 := h56.2.2.2.1
      have hsh := h56.2.2.2.2.1
      refine j_goto (tgt := 70) jb dX9_readForetold_59 (by decide) ?_
      refine j_aload_n jb dX9_readForetold_70 0 rfl ?_
      refine j_aload_n jb dX9_readForetold_71 1 rfl ?_
      refine j_iload_n jb dX9_readForetold_72 3 rfl ?_
      refine j_callV (wr := [(x0, oX1 xc (1 + q2) sh2), (xc, aI x.g 4 c2)]) jb k_X9_readValues i_X9_readValues s_X9_readValues l_X9_46 (C_X9_readValues x.l x.g h0 s0 h1 x0 hv n b len f4 p4 (1 + q2) B v (by omega) (by omega) hB (by omega) hf4 hp4) 0 11 rfl rfl rfl [0, 1, 2, 5] [3, 4] (by decide) rfl rfl (by decide) (by decide) rfl rfl (Nat.le_of_ble_eq_true rfl) (by decide) dX9_readForetold_73 (fun v w hp => ?_)
      obtain ⟨f5, p5, v5, rfl, rfl, h73⟩ := hp
      refine j_norm (lv' := [(0, .ref h0), (1, .ref hv), (2, .int (iI 7)), (3, .int (iI (1 + q2)))]) (st' := []) (ws' := [(h0, oX9 s0 x0 n b), (s0, oX0 h1 len f5 p5), (h1, aI x.g 2400 B), (x0, oX1 xc (1 + q2) sh2), (xc, aI x.g 4 c2), (hv, aI x.g 400 v5)]) [0, 1, 2, 3] [2, 3, 4, 0, 1, 5] rfl rfl (by decide) rfl ?_
      have hc5 := cI_then (f := fun p w => getR B len 3 p (fun q p2 => fltR (¬ mayP q n (1 + q2)) 6 (partsR B len b (1 + q2) sh2 c2 (n / 2 ^ q.toNat) (2 ^ q.toNat) 0 p2 w))) hc4 h73.1
      refine j_aload_n jb dX9_readForetold_76 0 rfl ?_
      refine j_get jb f_X9_18 dX9_readForetold_77 0 rfl rfl ?_
      refine j_iconst jb dX9_readForetold_80 ?_
      refine j_callV (wr := [(h0, oX9 s0 x0 n b), (x0, oX1 xc (1 + q2) sh2), (xc, aI x.g 4 c2), (hv, aI x.g 400 v5)]) jb k_X0_read i_X0_read s_X0_read l_X9_26 (C_X0_read x.l x.g s0 h1 B len f5 p5 3 hB (by omega) (by omega) (by decide) h73.2.2.1) 1 2 rfl rfl rfl [1, 2] [0, 3, 4, 5] (by decide) rfl rfl (by decide) (by decide) rfl rfl (Nat.le_of_ble_eq_true rfl) (by decide) dX9_readForetold_81 (fun v w hp => ?_)
      obtain ⟨pp, f6, p6, rfl, rfl, h81⟩ := hp
      refine j_norm (lv' := [(0, .ref h0), (1, .ref hv), (2, .int (iI 7)), (3, .int (iI (1 + q2)))]) (st' := [.int (iI pp)]) (ws' := [(h0, oX9 s0 x0 n b), (s0, oX0 h1 len f6 p6), (h1, aI x.g 2400 B), (x0, oX1 xc (1 + q2) sh2), (xc, aI x.g 4 c2), (hv, aI x.g 400 v5)]) [0, 1, 2, 3] [0, 4, 5, 1, 2, 3] rfl rfl (by decide) rfl ?_
      have hpp := rd_in (M := 8) h81 (num_in B p5 (3 : Int).toNat)
      have hc6 := cI_get (f := fun q p2 => fltR (¬ mayP q n (1 + q2)) 6 (partsR B len b (1 + q2) sh2 c2 (n / 2 ^ q.toNat) (2 ^ q.toNat) 0 p2 v5)) hc5 h81
      have hf6 := rd_fa h81
      have hp6 := rd_pos h81 (by decide) h73.2.2.1
      refine j_istore (lv' := [(4, .int (iI pp)), (0, .ref h0), (1, .ref hv), (2, .int (iI 7)), (3, .int (iI (1 + q2)))]) jb dX9_readForetold_84 (by decide) rfl ?_
      refine j_aload_n jb dX9_readForetold_86 1 rfl ?_
      refine j_get jb f_X9_18 dX9_readForetold_87 0 rfl rfl ?_
      refine j_iload jb dX9_readForetold_90 0 rfl ?_
      refine j_aload_n jb dX9_readForetold_92 1 rfl ?_
      refine j_get jb f_X9_22 dX9_readForetold_93 0 rfl rfl ?_
      refine j_iload_n jb dX9_readForetold_96 4 rfl ?_
      refine j_callSN (wr := [(h0, oX9 s0 x0 n b), (s0, oX0 h1 len f6 p6), (h1, aI x.g 2400 B), (x0, oX1 xc (1 + q2) sh2), (xc, aI x.g 4 c2), (hv, aI x.g 400 v5)]) jb k_X11_mayBeP t_X11_mayBeP n_X9_59 (C_X11_mayBeP x.l x.g pp n (1 + q2) (by omega) (by omega) (by omega)) [] [0, 1, 2, 3, 4, 5] (by decide) rfl rfl (by decide) (by decide) rfl rfl (Nat.le_of_ble_eq_true rfl) (by decide) dX9_readForetold_97 (fun v w hp => ?_)
      obtain ⟨rfl, rfl⟩ := hp
      refine j_norm (lv' := [(4, .int (iI pp)), (0, .ref h0), (1, .ref hv), (2, .int (iI 7)), (3, .int (iI (1 + q2)))]) (st' := [.int (iI (b2i (pp ≤ 4 ∧ n % 2 ^ pp.toNat = 0 ∧ (1 + q2) ≤ n / 2 ^ pp.toNat))), .ref s0]) (ws' := [(h0, oX9 s0 x0 n b), (s0, oX0 h1 len f6 p6), (h1, aI x.g 2400 B), (x0, oX1 xc (1 + q2) sh2), (xc, aI x.g 4 c2), (hv, aI x.g 400 v5)]) [0, 1, 2, 3, 4] [0, 1, 2, 3, 4, 5] rfl rfl (by decide) rfl ?_
      have J108 : ∀ (wr : Int), ((wr = 1 ∧ ¬ mayP pp n (1 + q2)) ∨ (wr = 0 ∧ ¬ ¬ mayP pp n (1 + q2))) → JW x 0 0 108 [(0, .ref h0), (1, .ref hv), (2, .int (iI 7)), (3, .int (iI (1 + q2))), (4, .int (iI pp))] [.int (iI wr), .ref s0] [(h0, oX9 s0 x0 n b), (s0, oX0 h1 len f6 p6), (h1, aI x.g 2400 B), (x0, oX1 xc (1 + q2) sh2), (xc, aI x.g 4 c2), (hv, aI x.g 400 v5)] := by
        intro wr hj108
        refine j_bipush jb dX9_readForetold_108 (by decide) ?_
        refine j_callV (wr := [(h0, oX9 s0 x0 n b), (h1, aI x.g 2400 B), (x0, oX1 xc (1 + q2) sh2), (xc, aI x.g 4 c2), (hv, aI x.g 400 v5)]) jb k_X0_faultIf i_X0_faultIf s_X0_faultIf l_X9_32 (C_X0_faultIf x.l x.g s0 h1 len f6 p6 wr 6 (by have := wrIn hj108; omega) (by omega) (by omega)) 1 2 rfl rfl rfl [1] [0, 2, 3, 4, 5] (by decide) rfl rfl (by decide) (by decide) rfl rfl (Nat.le_of_ble_eq_true rfl) (by decide) dX9_readForetold_110 (fun v w hp => ?_)
        obtain ⟨f7, rfl, rfl, h110⟩ := hp
        refine j_norm (lv' := [(0, .ref h0), (1, .ref hv), (2, .int (iI 7)), (3, .int (iI (1 + q2))), (4, .int (iI pp))]) (st' := [.int (iI (b2i (f7 ≠ 0)))]) (ws' := [(h0, oX9 s0 x0 n b), (s0, oX0 h1 len f7 p6), (h1, aI x.g 2400 B), (x0, oX1 xc (1 + q2) sh2), (xc, aI x.g 4 c2), (hv, aI x.g 400 v5)]) [0, 1, 2, 3, 4] [0, 5, 1, 2, 3, 4] rfl rfl (by decide) rfl ?_
        have hc7 := cI_flt hc6 h110 (by decide) (wr1 hj108)
        have hf7 := flt_in h110 (by omega) (by decide)
        refine j_ifb_eq (tgt := 117) jb dX9_readForetold_113 (by decide) (fun c_113 => ?_) (fun c_113 => ?_)
        · skip
          have hf70 : f7 = 0 := by omega
          have hmp : mayP pp n (1 + q2) := Decidable.of_not_not (wr0 hj108 (flt_0 h110 (by decide) hf70).1)
          have hnn := mayP_n hpp.1 hmp
          have hpw := pw_pos pp
          have hpw4 := pw_le (k := pp) 4 (by omega)
          have hq9 := ediv_in (a := n) pp.toNat (M := 401) (by decide) (by omega) (by omega)
          refine j_aload_n jb dX9_readForetold_117 0 rfl ?_
          refine j_get jb f_X9_22 dX9_readForetold_118 0 rfl rfl ?_
          refine j_iload jb dX9_readForetold_121 4 rfl ?_
          refine j_ishr jb dX9_readForetold_123 (by omega) (by omega) ?_
          refine j_istore (lv' := [(5, .int (iI (n / 2 ^ pp.toNat))), (0, .ref h0), (1, .ref hv), (2, .int (iI 7)), (3, .int (iI (1 + q2))), (4, .int (iI pp))]) jb dX9_readForetold_124 (by decide) rfl ?_
          refine j_iconst jb dX9_readForetold_126 ?_
          refine j_istore (lv' := [(6, .int (iI 0)), (5, .int (iI (n / 2 ^ pp.toNat))), (0, .ref h0), (1, .ref hv), (2, .int (iI 7)), (3, .int (iI (1 + q2))), (4, .int (iI pp))]) jb dX9_readForetold_127 (by decide) rfl ?_
          have L129 : ∀ (fu : Nat) (j fq pq : Int) (v1 : Int → Int), (0 ≤ j ∧ j ≤ 2 ^ pp.toNat ∧ (0 ≤ fq ∧ fq ≤ 20) ∧ (0 ≤ pq ∧ pq ≤ 8 * len) ∧ (fq = 0 → fitOn v1 b (pst (1 + q2) (n / 2 ^ pp.toNat) j)) ∧ contI R0 fq (partsR B len b (1 + q2) sh2 c2 (n / 2 ^ pp.toNat) (2 ^ pp.toNat - j).toNat j pq v1)) → (2 ^ pp.toNat - j).toNat < fu → JW x 0 0 129 [(0, .ref h0), (1, .ref hv), (2, .int (iI 7)), (3, .int (iI (1 + q2))), (4, .int (iI pp)), (5, .int (iI (n / 2 ^ pp.toNat))), (6, .int (iI j))] [] [(h0, oX9 s0 x0 n b), (s0, oX0 h1 len fq pq), (h1, aI x.g 2400 B), (x0, oX1 xc (1 + q2) sh2), (xc, aI x.g 4 c2), (hv, aI x.g 400 v1)] := by
            intro fu
            induction fu with
            | zero => intro j fq pq v1 _ hm; exact absurd hm (by omega)
            | succ fu ih =>
              intro j fq pq v1 ⟨hi1, hi2, hi4, hi5, hi6, hi7⟩ hm129
              have ih129 := ih
              clear ih
              refine j_iload jb dX9_readForetold_129 6 rfl ?_
              refine j_iconst jb dX9_readForetold_131 ?_
              refine j_iload jb dX9_readForetold_132 4 rfl ?_
              refine j_ishl jb dX9_readForetold_134 (by omega) ?_
              refine j_topi (2 ^ pp.toNat) (Int.one_mul _) ?_
              refine j_icmp_ge (tgt := 170) jb dX9_readForetold_135 (by decide) (by omega) (by omega) (fun c_135 => ?_) (fun c_135 => ?_)
              · skip
                refine j_norm (lv' := []) (st' := []) (ws' := [(h0, oX9 s0 x0 n b), (s0, oX0 h1 len fq pq), (h1, aI x.g 2400 B), (x0, oX1 xc (1 + q2) sh2), (xc, aI x.g 4 c2), (hv, aI x.g 400 v1)]) [] [0, 1, 2, 3, 4, 5] rfl rfl (by decide) rfl ?_
                exact j_vret jb jr dX9_readForetold_170 ⟨_, _, _, _, _, _, rfl, rfl, (by rw [← hR0]; exact ⟨cI_end (partsR_0 hi7 (by omega)), hi4, hi5, hcc, fun q => (by have hj9 : j = 2 ^ pp.toNat := (by omega); have z := hi6 q; rw [show pst (1 + q2) (n / 2 ^ pp.toNat) j = j * (n / 2 ^ pp.toNat) from if_neg (by omega), hj9, ← hnn] at z; exact z)⟩)⟩
              · skip
                have hjp : j < 2 ^ pp.toNat := by omega
                have hpr := prange (n := n) (o := (1 + q2)) (each := (n / 2 ^ pp.toNat)) (c := 2 ^ pp.toNat) (j := j) ⟨by omega, hmp.2.2⟩ hnn ⟨hi1, hjp⟩
                have hpe := pend (1 + q2) (n / 2 ^ pp.toNat) j
                refine j_aload_n jb dX9_readForetold_138 0 rfl ?_
                refine j_aload_n jb dX9_readForetold_139 1 rfl ?_
                refine j_iload jb dX9_readForetold_140 6 rfl ?_
                have J154 : ∀ (fr : Int), fr = pst (1 + q2) (n / 2 ^ pp.toNat) j → JW x 0 0 154 [(0, .ref h0), (1, .ref hv), (2, .int (iI 7)), (3, .int (iI (1 + q2))), (4, .int (iI pp)), (5, .int (iI (n / 2 ^ pp.toNat))), (6, .int (iI j))] [.int (iI fr), .ref hv, .ref h0] [(h0, oX9 s0 x0 n b), (s0, oX0 h1 len fq pq), (h1, aI x.g 2400 B), (x0, oX1 xc (1 + q2) sh2), (xc, aI x.g 4 c2), (hv, aI x.g 400 v1)] := by
                  intro fr hfr
                  refine j_iload jb dX9_readForetold_154 6 rfl ?_
                  refine j_iconst jb dX9_readForetold_156 ?_
                  refine j_iadd jb dX9_readForetold_157 ?_
                  refine j_iload jb dX9_readForetold_158 5 rfl ?_
                  refine j_imul jb dX9_readForetold_160 ?_
                  refine j_callV (wr := []) jb k_X9_readPart i_X9_readPart s_X9_readPart l_X9_63 (C_X9_readPart x.l x.g h0 s0 h1 x0 xc hv n b len fq pq (1 + q2) sh2 fr ((j + 1) * (n / 2 ^ pp.toNat)) B c2 v1 hb (by omega) (by omega) (by omega) hcc (by rw [hfr]; exact hi6) hB (by omega) hi4 hi5) 0 11 rfl rfl rfl [0, 1, 2, 3, 4, 5] [] (by decide) rfl rfl (by decide) (by decide) rfl rfl (Nat.le_of_ble_eq_true rfl) (by decide) dX9_readForetold_161 (fun v w hp => ?_)
                  obtain ⟨f9, p9, v9, rfl, rfl, h161⟩ := hp
                  refine j_norm (lv' := [(0, .ref h0), (1, .ref hv), (2, .int (iI 7)), (3, .int (iI (1 + q2))), (4, .int (iI pp)), (5, .int (iI (n / 2 ^ pp.toNat))), (6, .int (iI j))]) (st' := []) (ws' := [(h0, oX9 s0 x0 n b), (s0, oX0 h1 len f9 p9), (h1, aI x.g 2400 B), (x0, oX1 xc (1 + q2) sh2), (xc, aI x.g 4 c2), (hv, aI x.g 400 v9)]) [0, 1, 2, 3, 4, 5, 6] [0, 1, 2, 3, 4, 5] rfl rfl (by decide) rfl ?_
                  refine j_iinc (lv' := [(6, .int (iI (j + 1))), (0, .ref h0), (1, .ref hv), (2, .int (iI 7)), (3, .int (iI (1 + q2))), (4, .int (iI pp)), (5, .int (iI (n / 2 ^ pp.toNat)))]) jb dX9_readForetold_164 6 rfl (by decide) rfl ?_
                  refine j_goto (tgt := 129) jb dX9_readForetold_167 (by decide) ?_
                  refine j_norm (lv' := [(0, .ref h0), (1, .ref hv), (2, .int (iI 7)), (3, .int (iI (1 + q2))), (4, .int (iI pp)), (5, .int (iI (n / 2 ^ pp.toNat))), (6, .int (iI (j + 1)))]) (st' := []) (ws' := [(h0, oX9 s0 x0 n b), (s0, oX0 h1 len f9 p9), (h1, aI x.g 2400 B), (x0, oX1 xc (1 + q2) sh2), (xc, aI x.g 4 c2), (hv, aI x.g 400 v9)]) [1, 2, 3, 4, 5, 6, 0] [0, 1, 2, 3, 4, 5] rfl rfl (by decide) rfl ?_
                  exact ih129 (j + 1) f9 p9 v9 ⟨by omega, by omega, h161.2.1, h161.2.2.1, fun q => by rw [show pst (1 + q2) (n / 2 ^ pp.toNat) (j + 1) = (j + 1) * (n / 2 ^ pp.toNat) from if_neg (by omega)]; exact h161.2.2.2 q, partsR_step hi7 (by omega) (by rw [← hfr]; exact h161.1)⟩ (by omega)
                refine j_if_ne (tgt := 149) jb dX9_readForetold_142 (by decide) (by omega) (fun c_142 => ?_) (fun c_142 => ?_)
                · skip
                  refine j_iload jb dX9_readForetold_149 6 rfl ?_
                  refine j_iload jb dX9_readForetold_151 5 rfl ?_
                  refine j_imul jb dX9_readForetold_153 ?_
                  refine j_norm (lv' := [(0, .ref h0), (1, .ref hv), (2, .int (iI 7)), (3, .int (iI (1 + q2))), (4, .int (iI pp)), (5, .int (iI (n / 2 ^ pp.toNat))), (6, .int (iI j))]) (st' := [.int (iI (j * (n / 2 ^ pp.toNat))), .ref hv, .ref h0]) (ws' := [(h0, oX9 s0 x0 n b), (s0, oX0 h1 len fq pq), (h1, aI x.g 2400 B), (x0, oX1 xc (1 + q2) sh2), (xc, aI x.g 4 c2), (hv, aI x.g 400 v1)]) [0, 1, 2, 3, 4, 5, 6] [0, 1, 2, 3, 4, 5] rfl rfl (by decide) rfl ?_
                  exact J154 (j * (n / 2 ^ pp.toNat)) (by unfold pst; first | (rw [if_pos c_142]; done) | (rw [if_neg c_142]; done))
                · skip
                  refine j_iload_n jb dX9_readForetold_145 3 rfl ?_
                  refine j_goto (tgt := 154) jb dX9_readForetold_146 (by decide) ?_
                  refine j_norm (lv' := [(0, .ref h0), (1, .ref hv), (2, .int (iI 7)), (3, .int (iI (1 + q2))), (4, .int (iI pp)), (5, .int (iI (n / 2 ^ pp.toNat))), (6, .int (iI j))]) (st' := [.int (iI (1 + q2)), .ref hv, .ref h0]) (ws' := [(h0, oX9 s0 x0 n b), (s0, oX0 h1 len fq pq), (h1, aI x.g 2400 B), (x0, oX1 xc (1 + q2) sh2), (xc, aI x.g 4 c2), (hv, aI x.g 400 v1)]) [0, 1, 2, 3, 4, 5, 6] [0, 1, 2, 3, 4, 5] rfl rfl (by decide) rfl ?_
                  exact J154 (1 + q2) (by unfold pst; first | (rw [if_pos c_142]; done) | (rw [if_neg c_142]; done))
          refine j_norm (lv' := [(0, .ref h0), (1, .ref hv), (2, .int (iI 7)), (3, .int (iI (1 + q2))), (4, .int (iI pp)), (5, .int (iI (n / 2 ^ pp.toNat))), (6, .int (iI 0))]) (st' := []) (ws' := [(h0, oX9 s0 x0 n b), (s0, oX0 h1 len f7 p6), (h1, aI x.g 2400 B), (x0, oX1 xc (1 + q2) sh2), (xc, aI x.g 4 c2), (hv, aI x.g 400 v5)]) [2, 3, 4, 5, 6, 1, 0] [0, 1, 2, 3, 4, 5] rfl rfl (by decide) rfl ?_
          exact L129 _ 0 f7 p6 v5 ⟨by decide, by omega, hf7, hp6, fun _ => by rw [show pst (1 + q2) (n / 2 ^ pp.toNat) 0 = (1 + q2) from if_pos rfl]; exact h73.2.2.2, by rw [Int.sub_zero, show ((2 : Int) ^ pp.toNat).toNat = 2 ^ pp.toNat from Int.toNat_natCast (2 ^ pp.toNat)]; exact hc7⟩ (Nat.lt_succ_self _)
        · skip
          refine j_norm (lv' := []) (st' := []) (ws' := [(h0, oX9 s0 x0 n b), (s0, oX0 h1 len f7 p6), (h1, aI x.g 2400 B), (x0, oX1 xc (1 + q2) sh2), (xc, aI x.g 4 c2), (hv, aI x.g 400 v5)]) [] [0, 1, 2, 3, 4, 5] rfl rfl (by decide) rfl ?_
          exact j_vret jb jr dX9_readForetold_116 ⟨_, _, _, _, _, _, rfl, rfl, (by rw [← hR0]; exact ⟨cI_bad hc7 c_113, hf7, hp6, hcc, fun q => absurd q c_113⟩)⟩
      refine j_ifb_ne (tgt := 107) jb dX9_readForetold_100 (by decide) (fun c_100 => ?_) (fun c_100 => ?_)
      · skip
        refine j_iconst jb dX9_readForetold_107 ?_
        refine j_norm (lv' := [(0, .ref h0), (1, .ref hv), (2, .int (iI 7)), (3, .int (iI (1 + q2))), (4, .int (iI pp))]) (st' := [.int (iI 0), .ref s0]) (ws' := [(h0, oX9 s0 x0 n b), (s0, oX0 h1 len f6 p6), (h1, aI x.g 2400 B), (x0, oX1 xc (1 + q2) sh2), (xc, aI x.g 4 c2), (hv, aI x.g 400 v5)]) [1, 2, 3, 4, 0] [0, 1, 2, 3, 4, 5] rfl rfl (by decide) rfl ?_
        exact J108 0 (Or.inr ⟨rfl, fun q => q c_100⟩)
      · skip
        refine j_iconst jb dX9_readForetold_103 ?_
        refine j_goto (tgt := 108) jb dX9_readForetold_104 (by decide) ?_
        refine j_norm (lv' := [(0, .ref h0), (1, .ref hv), (2, .int (iI 7)), (3, .int (iI (1 + q2))), (4, .int (iI pp))]) (st' := [.int (iI 1), .ref s0]) (ws' := [(h0, oX9 s0 x0 n b), (s0, oX0 h1 len f6 p6), (h1, aI x.g 2400 B), (x0, oX1 xc (1 + q2) sh2), (xc, aI x.g 4 c2), (hv, aI x.g 400 v5)]) [1, 2, 3, 4, 0] [0, 1, 2, 3, 4, 5] rfl rfl (by decide) rfl ?_
        exact J108 1 (Or.inl ⟨rfl, c_100⟩)
    · skip
      refine j_norm (lv' := []) (st' := []) (ws' := [(h0, oX9 s0 x0 n b), (s0, oX0 h1 len f2 p1), (h1, aI x.g 2400 B), (x0, oX1 xc o sh), (xc, aI x.g 4 cf), (hv, aI x.g 400 v)]) [] [0, 1, 2, 3, 4, 5] rfl rfl (by decide) rfl ?_
      exact j_vret jb jr dX9_readForetold_47 ⟨_, _, _, _, _, _, rfl, rfl, (by rw [← hR0]; exact ⟨cI_bad hc2 c_44, hf2, hp1, hcf, fun q => absurd q c_44⟩)⟩
  refine j_icmp_le (tgt := 39) jb dX9_readForetold_32 (by decide) (by omega) (by omega) (fun c_32 => ?_) (fun c_32 => ?_)
  · skip
    refine j_iconst jb dX9_readForetold_39 ?_
    refine j_norm (lv' := [(0, .ref h0), (1, .ref hv), (2, .int (iI 7)), (3, .int (iI (1 + q2)))]) (st' := [.int (iI 0), .ref s0]) (ws' := [(h0, oX9 s0 x0 n b), (s0, oX0 h1 len f1 p1), (h1, aI x.g 2400 B), (x0, oX1 xc o sh), (xc, aI x.g 4 cf), (hv, aI x.g 400 v)]) [1, 2, 3, 0] [0, 1, 2, 3, 4, 5] rfl rfl (by decide) rfl ?_
    exact J40 0 (by omega)
  · skip
    refine j_iconst jb dX9_readForetold_35 ?_
    refine j_goto (tgt := 40) jb dX9_readForetold_36 (by decide) ?_
    refine j_norm (lv' := [(0, .ref h0), (1, .ref hv), (2, .int (iI 7)), (3, .int (iI (1 + q2)))]) (st' := [.int (iI 1), .ref s0]) (ws' := [(h0, oX9 s0 x0 n b), (s0, oX0 h1 len f1 p1), (h1, aI x.g 2400 B), (x0, oX1 xc o sh), (xc, aI x.g 4 cf), (hv, aI x.g 400 v)]) [1, 2, 3, 0] [0, 1, 2, 3, 4, 5] rfl rfl (by decide) rfl ?_
    exact J40 1 (by omega)

set_option maxHeartbeats 4000000 in
set_option maxRecDepth 100000 in
theorem C_X9_readForetold_f (l : Launch) (g : GG) (h0 s0 h1 x0 xc hv : Nat) (n b len fa pos o sh kind : Int) (B cf v : Int → Int) (hk : 2 ≤ kind ∧ kind ≤ 6) (hn : 1 ≤ n ∧ n ≤ 400) (hb : 1 ≤ b ∧ b ≤ 17) (hcf : cfOk cf) (hf0 : fa = 0) (hB : isBytes B) (hl : 0 ≤ len ∧ len ≤ 2400) (hfa : 0 ≤ fa ∧ fa ≤ 20) (hp : 0 ≤ pos ∧ pos ≤ 8 * len) : Ctr l g yX9_readForetold cX9_readForetold 7 none 4 120 0 0 [.ref h0, .ref hv, .int (iI kind)] [(h0, oX9 s0 x0 n b), (s0, oX0 h1 len fa pos), (h1, aI g 2400 B), (x0, oX1 xc o sh), (xc, aI g 4 cf), (hv, aI g 400 v)] (fun vv ww => ∃ (fa2 pos2 o2 sh2 : Int) (v2 c2 : Int → Int), vv = none ∧ ww = [(h0, oX9 s0 x0 n b), (s0, oX0 h1 len fa2 pos2), (h1, aI g 2400 B), (x0, oX1 xc o2 sh2), (xc, aI g 4 c2), (hv, aI g 400 v2)] ∧ isR (foreR B len n b kind cf pos v) fa2 pos2 v2 ∧ (0 ≤ fa2 ∧ fa2 ≤ 20) ∧ (0 ≤ pos2 ∧ pos2 ≤ 8 * len) ∧ cfOk c2 ∧ (fa2 = 0 → fitOn v2 b n)) := by
  refine Ctr.of [(0, .ref h0), (1, .ref hv), (2, .int (iI kind))] (by decide) (Nat.le_of_ble_eq_true rfl) rfl ?_
  intro x hxl hxg jb jr hin
  subst hxl; subst hxg
  obtain ⟨R0, hR0⟩ : ∃ R : RR, R = (foreR B len n b kind cf pos v) := ⟨_, rfl⟩
  have hc00 : contI R0 fa (foreR B len n b kind cf pos v) := cI_0 hf0 hR0
  have hc0 := hc00
  unfold foreR at hc0
  rw [if_neg (show ¬ kind = 7 by omega)] at hc0
  refine j_iload_n jb dX9_readForetold_0 2 rfl ?_
  refine j_bipush jb dX9_readForetold_1 (by decide) ?_
  refine j_icmp_ne (tgt := 19) jb dX9_readForetold_3 (by decide) (by omega) (by omega) (fun c_3 => ?_) (fun c_3 => ?_)
  · skip
    refine j_iload_n jb dX9_readForetold_19 2 rfl ?_
    refine j_iconst jb dX9_readForetold_20 ?_
    refine j_isub jb dX9_readForetold_21 ?_
    have hc1 := hc0
    refine j_istore_n (lv' := [(3, .int (iI (kind - 2))), (0, .ref h0), (1, .ref hv), (2, .int (iI kind))]) jb dX9_readForetold_22 rfl (by decide) rfl ?_
    refine j_aload_n jb dX9_readForetold_23 1 rfl ?_
    refine j_get jb f_X9_18 dX9_readForetold_24 0 rfl rfl ?_
    refine j_iload_n jb dX9_readForetold_27 0 rfl ?_
    refine j_aload_n jb dX9_readForetold_28 1 rfl ?_
    refine j_get jb f_X9_22 dX9_readForetold_29 0 rfl rfl ?_
    have J40 : ∀ (wr : Int), ((wr = 1 ∧ n < (kind - 2)) ∨ (wr = 0 ∧ ¬ n < (kind - 2))) → JW x 0 0 40 [(0, .ref h0), (1, .ref hv), (2, .int (iI kind)), (3, .int (iI (kind - 2)))] [.int (iI wr), .ref s0] [(h0, oX9 s0 x0 n b), (s0, oX0 h1 len fa pos), (h1, aI x.g 2400 B), (x0, oX1 xc o sh), (xc, aI x.g 4 cf), (hv, aI x.g 400 v)] := by
      intro wr hj40
      refine j_iconst jb dX9_readForetold_40 ?_
      refine j_callV (wr := [(h0, oX9 s0 x0 n b), (h1, aI x.g 2400 B), (x0, oX1 xc o sh), (xc, aI x.g 4 cf), (hv, aI x.g 400 v)]) jb k_X0_faultIf i_X0_faultIf s_X0_faultIf l_X9_32 (C_X0_faultIf x.l x.g s0 h1 len fa pos wr 5 (by have := wrIn hj40; omega) (by omega) (by omega)) 1 2 rfl rfl rfl [1] [0, 2, 3, 4, 5] (by decide) rfl rfl (by decide) (by decide) rfl rfl (Nat.le_of_ble_eq_true rfl) (by decide) dX9_readForetold_41 (fun v w hp => ?_)
      obtain ⟨f2, rfl, rfl, h41⟩ := hp
      refine j_norm (lv' := [(0, .ref h0), (1, .ref hv), (2, .int (iI kind)), (3, .int (iI (kind - 2)))]) (st' := [.int (iI (b2i (f2 ≠ 0)))]) (ws' := [(h0, oX9 s0 x0 n b), (s0, oX0 h1 len f2 pos), (h1, aI x.g 2400 B), (x0, oX1 xc o sh), (xc, aI x.g 4 cf), (hv, aI x.g 400 v)]) [0, 1, 2, 3] [0, 5, 1, 2, 3, 4] rfl rfl (by decide) rfl ?_
      have hc2 := cI_flt hc1 h41 (by decide) (wr1 hj40)
      have hf2 := flt_in h41 (by omega) (by decide)
      refine j_ifb_eq (tgt := 48) jb dX9_readForetold_44 (by decide) (fun c_44 => ?_) (fun c_44 => ?_)
      · skip
        have hf20 : f2 = 0 := by omega
        have hno := wr0 hj40 (flt_0 h41 (by decide) hf20).1
        refine j_iload_n jb dX9_readForetold_48 2 rfl ?_
        refine j_bipush jb dX9_readForetold_49 (by decide) ?_
        refine j_icmp_ne (tgt := 62) jb dX9_readForetold_51 (by decide) (by omega) (by omega) (fun c_51 => ?_) (fun c_51 => ?_)
        · skip
          refine j_aload_n jb dX9_readForetold_62 0 rfl ?_
          refine j_get jb f_X9_12 dX9_readForetold_63 0 rfl rfl ?_
          refine j_iload_n jb dX9_readForetold_66 3 rfl ?_
          refine j_callV (wr := [(h0, oX9 s0 x0 n b), (s0, oX0 h1 len f2 pos), (h1, aI x.g 2400 B), (hv, aI x.g 400 v)]) jb k_X1_becomeFixed i_X1_becomeFixed s_X1_becomeFixed l_X9_56 (C_X1_becomeFixed x.l x.g x0 xc cf o sh (kind - 2) (by omega)) 3 3 rfl rfl rfl [3, 4] [0, 1, 2, 5] (by decide) rfl rfl (by decide) (by decide) rfl rfl (Nat.le_of_ble_eq_true rfl) (by decide) dX9_readForetold_67 (fun v w hp => ?_)
          obtain ⟨c2, rfl, rfl, h67⟩ := hp
          refine j_norm (lv' := [(0, .ref h0), (1, .ref hv), (2, .int (iI kind)), (3, .int (iI (kind - 2)))]) (st' := []) (ws' := [(h0, oX9 s0 x0 n b), (s0, oX0 h1 len f2 pos), (h1, aI x.g 2400 B), (x0, oX1 xc (kind - 2) 0), (xc, aI x.g 4 c2), (hv, aI x.g 400 v)]) [0, 1, 2, 3] [0, 1, 2, 4, 5, 3] rfl rfl (by decide) rfl ?_
          have hcc := cFix_ok (show 0 ≤ kind - 2 ∧ kind - 2 ≤ 4 by omega) h67
          have hc4 := hc2
          have hf4 := hf2
          have hp4 := hp
          refine j_aload_n jb dX9_readForetold_70 0 rfl ?_
          refine j_aload_n jb dX9_readForetold_71 1 rfl ?_
          refine j_iload_n jb dX9_readForetold_72 3 rfl ?_
          refine j_callV (wr := [(x0, oX1 xc (kind - 2) 0), (xc, aI x.g 4 c2)]) jb k_X9_readValues i_X9_readValues s_X9_readValues l_X9_46 (C_X9_readValues x.l x.g h0 s0 h1 x0 hv n b len f2 pos (kind - 2) B v (by omega) (by omega) hB (by omega) hf4 hp4) 0 11 rfl rfl rfl [0, 1, 2, 5] [3, 4] (by decide) rfl rfl (by decide) (by decide) rfl rfl (Nat.le_of_ble_eq_true rfl) (by decide) dX9_readForetold_73 (fun v w hp => ?_)
          obtain ⟨f5, p5, v5, rfl, rfl, h73⟩ := hp
          refine j_norm (lv' := [(0, .ref h0), (1, .ref hv), (2, .int (iI kind)), (3, .int (iI (kind - 2)))]) (st' := []) (ws' := [(h0, oX9 s0 x0 n b), (s0, oX0 h1 len f5 p5), (h1, aI x.g 2400 B), (x0, oX1 xc (kind - 2) 0), (xc, aI x.g 4 c2), (hv, aI x.g 400 v5)]) [0, 1, 2, 3] [2, 3, 4, 0, 1, 5] rfl rfl (by decide) rfl ?_
          have hc5 := cI_then (f := fun p w => getR B len 3 p (fun q p2 => fltR (¬ mayP q n (kind - 2)) 6 (partsR B len b (kind - 2) 0 (cFix (kind - 2)) (n / 2 ^ q.toNat) (2 ^ q.toNat) 0 p2 w))) hc4 h73.1
          refine j_aload_n jb dX9_readForetold_76 0 rfl ?_
          refine j_get jb f_X9_18 dX9_readForetold_77 0 rfl rfl ?_
          refine j_iconst jb dX9_readForetold_80 ?_
          refine j_callV (wr := [(h0, oX9 s0 x0 n b), (x0, oX1 xc (kind - 2) 0), (xc, aI x.g 4 c2), (hv, aI x.g 400 v5)]) jb k_X0_read i_X0_read s_X0_read l_X9_26 (C_X0_read x.l x.g s0 h1 B len f5 p5 3 hB (by omega) (by omega) (by decide) h73.2.2.1) 1 2 rfl rfl rfl [1, 2] [0, 3, 4, 5] (by decide) rfl rfl (by decide) (by decide) rfl rfl (Nat.le_of_ble_eq_true rfl) (by decide) dX9_readForetold_81 (fun v w hp => ?_)
          obtain ⟨pp, f6, p6, rfl, rfl, h81⟩ := hp
          refine j_norm (lv' := [(0, .ref h0), (1, .ref hv), (2, .int (iI kind)), (3, .int (iI (kind - 2)))]) (st' := [.int (iI pp)]) (ws' := [(h0, oX9 s0 x0 n b), (s0, oX0 h1 len f6 p6), (h1, aI x.g 2400 B), (x0, oX1 xc (kind - 2) 0), (xc, aI x.g 4 c2), (hv, aI x.g 400 v5)]) [0, 1, 2, 3] [0, 4, 5, 1, 2, 3] rfl rfl (by decide) rfl ?_
          have hpp := rd_in (M := 8) h81 (num_in B p5 (3 : Int).toNat)
          have hc6 := cI_get (f := fun q p2 => fltR (¬ mayP q n (kind - 2)) 6 (partsR B len b (kind - 2) 0 (cFix (kind - 2)) (n / 2 ^ q.toNat) (2 ^ q.toNat) 0 p2 v5)) hc5 h81
          have hf6 := rd_fa h81
          have hp6 := rd_pos h81 (by decide) h73.2.2.1
          refine j_istore (lv' := [(4, .int (iI pp)), (0, .ref h0), (1, .ref hv), (2, .int (iI kind)), (3, .int (iI (kind - 2)))]) jb dX9_readForetold_84 (by decide) rfl ?_
          refine j_aload_n jb dX9_readForetold_86 1 rfl ?_
          refine j_get jb f_X9_18 dX9_readForetold_87 0 rfl rfl ?_
          refine j_iload jb dX9_readForetold_90 0 rfl ?_
          refine j_aload_n jb dX9_readForetold_92 1 rfl ?_
          refine j_get jb f_X9_22 dX9_readForetold_93 0 rfl rfl ?_
          refine j_iload_n jb dX9_readForetold_96 4 rfl ?_
          refine j_callSN (wr := [(h0, oX9 s0 x0 n b), (s0, oX0 h1 len f6 p6), (h1, aI x.g 2400 B), (x0, oX1 xc (kind - 2) 0), (xc, aI x.g 4 c2), (hv, aI x.g 400 v5)]) jb k_X11_mayBeP t_X11_mayBeP n_X9_59 (C_X11_mayBeP x.l x.g pp n (kind - 2) (by omega) (by omega) (by omega)) [] [0, 1, 2, 3, 4, 5] (by decide) rfl rfl (by decide) (by decide) rfl rfl (Nat.le_of_ble_eq_true rfl) (by decide) dX9_readForetold_97 (fun v w hp => ?_)
          obtain ⟨rfl, rfl⟩ := hp
          refine j_norm (lv' := [(4, .int (iI pp)), (0, .ref h0), (1, .ref hv), (2, .int (iI kind)), (3, .int (iI (kind - 2)))]) (st' := [.int (iI (b2i (pp ≤ 4 ∧ n % 2 ^ pp.toNat = 0 ∧ (kind - 2) ≤ n / 2 ^ pp.toNat))), .ref s0]) (ws' := [(h0, oX9 s0 x0 n b), (s0, oX0 h1 len f6 p6), (h1, aI x.g 2400 B), (x0, oX1 xc (kind - 2) 0), (xc, aI x.g 4 c2), (hv, aI x.g 400 v5)]) [0, 1, 2, 3, 4] [0, 1, 2, 3, 4, 5] rfl rfl (by decide) rfl ?_
          have J108 : ∀ (wr : Int), ((wr = 1 ∧ ¬ mayP pp n (kind - 2)) ∨ (wr = 0 ∧ ¬ ¬ mayP pp n (kind - 2))) → JW x 0 0 108 [(0, .ref h0), (1, .ref hv), (2, .int (iI kind)), (3, .int (iI (kind - 2))), (4, .int (iI pp))] [.int (iI wr), .ref s0] [(h0, oX9 s0 x0 n b), (s0, oX0 h1 len f6 p6), (h1, aI x.g 2400 B), (x0, oX1 xc (kind - 2) 0), (xc, aI x.g 4 c2), (hv, aI x.g 400 v5)] := by
            intro wr hj108
            refine j_bipush jb dX9_readForetold_108 (by decide) ?_
            refine j_callV (wr := [(h0, oX9 s0 x0 n b), (h1, aI x.g 2400 B), (x0, oX1 xc (kind - 2) 0), (xc, aI x.g 4 c2), (hv, aI x.g 400 v5)]) jb k_X0_faultIf i_X0_faultIf s_X0_faultIf l_X9_32 (C_X0_faultIf x.l x.g s0 h1 len f6 p6 wr 6 (by have := wrIn hj108; omega) (by omega) (by omega)) 1 2 rfl rfl rfl [1] [0, 2, 3, 4, 5] (by decide) rfl rfl (by decide) (by decide) rfl rfl (Nat.le_of_ble_eq_true rfl) (by decide) dX9_readForetold_110 (fun v w hp => ?_)
            obtain ⟨f7, rfl, rfl, h110⟩ := hp
            refine j_norm (lv' := [(0, .ref h0), (1, .ref hv), (2, .int (iI kind)), (3, .int (iI (kind - 2))), (4, .int (iI pp))]) (st' := [.int (iI (b2i (f7 ≠ 0)))]) (ws' := [(h0, oX9 s0 x0 n b), (s0, oX0 h1 len f7 p6), (h1, aI x.g 2400 B), (x0, oX1 xc (kind - 2) 0), (xc, aI x.g 4 c2), (hv, aI x.g 400 v5)]) [0, 1, 2, 3, 4] [0, 5, 1, 2, 3, 4] rfl rfl (by decide) rfl ?_
            have hc7 := cI_flt hc6 h110 (by decide) (wr1 hj108)
            have hf7 := flt_in h110 (by omega) (by decide)
            refine j_ifb_eq (tgt := 117) jb dX9_readForetold_113 (by decide) (fun c_113 => ?_) (fun c_113 => ?_)
            · skip
              have hf70 : f7 = 0 := by omega
              have hmp : mayP pp n (kind - 2) := Decidable.of_not_not (wr0 hj108 (flt_0 h110 (by decide) hf70).1)
              have hnn := mayP_n hpp.1 hmp
              have hpw := pw_pos pp
              have hpw4 := pw_le (k := pp) 4 (by omega)
              have hq9 := ediv_in (a := n) pp.toNat (M := 401) (by decide) (by omega) (by omega)
              refine j_aload_n jb dX9_readForetold_117 0 rfl ?_
              refine j_get jb f_X9_22 dX9_readForetold_118 0 rfl rfl ?_
              refine j_iload jb dX9_readForetold_121 4 rfl ?_
              refine j_ishr jb dX9_readForetold_123 (by omega) (by omega) ?_
              refine j_istore (lv' := [(5, .int (iI (n / 2 ^ pp.toNat))), (0, .ref h0), (1, .ref hv), (2, .int (iI kind)), (3, .int (iI (kind - 2))), (4, .int (iI pp))]) jb dX9_readForetold_124 (by decide) rfl ?_
              refine j_iconst jb dX9_readForetold_126 ?_
              refine j_istore (lv' := [(6, .int (iI 0)), (5, .int (iI (n / 2 ^ pp.toNat))), (0, .ref h0), (1, .ref hv), (2, .int (iI kind)), (3, .int (iI (kind - 2))), (4, .int (iI pp))]) jb dX9_readForetold_127 (by decide) rfl ?_
              have L129 : ∀ (fu : Nat) (j fq pq : Int) (v1 : Int → Int), (0 ≤ j ∧ j ≤ 2 ^ pp.toNat ∧ (0 ≤ fq ∧ fq ≤ 20) ∧ (0 ≤ pq ∧ pq ≤ 8 * len) ∧ (fq = 0 → fitOn v1 b (pst (kind - 2) (n / 2 ^ pp.toNat) j)) ∧ contI R0 fq (partsR B len b (kind - 2) 0 (cFix (kind - 2)) (n / 2 ^ pp.toNat) (2 ^ pp.toNat - j).toNat j pq v1)) → (2 ^ pp.toNat - j).toNat < fu → JW x 0 0 129 [(0, .ref h0), (1, .ref hv), (2, .int (iI kind)), (3, .int (iI (kind - 2))), (4, .int (iI pp)), (5, .int (iI (n / 2 ^ pp.toNat))), (6, .int (iI j))] [] [(h0, oX9 s0 x0 n b), (s0, oX0 h1 len fq pq), (h1, aI x.g 2400 B), (x0, oX1 xc (kind - 2) 0), (xc, aI x.g 4 c2), (hv, aI x.g 400 v1)] := by
                intro fu
                induction fu with
                | zero => intro j fq pq v1 _ hm; exact absurd hm (by omega)
                | succ fu ih =>
                  intro j fq pq v1 ⟨hi1, hi2, hi4, hi5, hi6, hi7⟩ hm129
                  have ih129 := ih
                  clear ih
                  refine j_iload jb dX9_readForetold_129 6 rfl ?_
                  refine j_iconst jb dX9_readForetold_131 ?_
                  refine j_iload jb dX9_readForetold_132 4 rfl ?_
                  refine j_ishl jb dX9_readForetold_134 (by omega) ?_
                  refine j_topi (2 ^ pp.toNat) (Int.one_mul _) ?_
                  refine j_icmp_ge (tgt := 170) jb dX9_readForetold_135 (by decide) (by omega) (by omega) (fun c_135 => ?_) (fun c_135 => ?_)
                  · skip
                    refine j_norm (lv' := []) (st' := []) (ws' := [(h0, oX9 s0 x0 n b), (s0, oX0 h1 len fq pq), (h1, aI x.g 2400 B), (x0, oX1 xc (kind - 2) 0), (xc, aI x.g 4 c2), (hv, aI x.g 400 v1)]) [] [0, 1, 2, 3, 4, 5] rfl rfl (by decide) rfl ?_
                    exact j_vret jb jr dX9_readForetold_170 ⟨_, _, _, _, _, _, rfl, rfl, (by rw [← hR0]; exact ⟨cI_end (partsR_0 hi7 (by omega)), hi4, hi5, hcc, fun q => (by have hj9 : j = 2 ^ pp.toNat := (by omega); have z := hi6 q; rw [show pst (kind - 2) (n / 2 ^ pp.toNat) j = j * (n / 2 ^ pp.toNat) from if_neg (by omega), hj9, ← hnn] at z; exact z)⟩)⟩
                  · skip
                    have hjp : j < 2 ^ pp.toNat := by omega
                    have hpr := prange (n := n) (o := (kind - 2)) (each := (n / 2 ^ pp.toNat)) (c := 2 ^ pp.toNat) (j := j) ⟨by omega, hmp.2.2⟩ hnn ⟨hi1, hjp⟩
                    have hpe := pend (kind - 2) (n / 2 ^ pp.toNat) j
                    refine j_aload_n jb dX9_readForetold_138 0 rfl ?_
                    refine j_aload_n jb dX9_readForetold_139 1 rfl ?_
                    refine j_iload jb dX9_readForetold_140 6 rfl ?_
                    have J154 : ∀ (fr : Int), fr = pst (kind - 2) (n / 2 ^ pp.toNat) j → JW x 0 0 154 [(0, .ref h0), (1, .ref hv), (2, .int (iI kind)), (3, .int (iI (kind - 2))), (4, .int (iI pp)), (5, .int (iI (n / 2 ^ pp.toNat))), (6, .int (iI j))] [.int (iI fr), .ref hv, .ref h0] [(h0, oX9 s0 x0 n b), (s0, oX0 h1 len fq pq), (h1, aI x.g 2400 B), (x0, oX1 xc (kind - 2) 0), (xc, aI x.g 4 c2), (hv, aI x.g 400 v1)] := by
                      intro fr hfr
                      refine j_iload jb dX9_readForetold_154 6 rfl ?_
                      refine j_iconst jb dX9_readForetold_156 ?_
                      refine j_iadd jb dX9_readForetold_157 ?_
                      refine j_iload jb dX9_readForetold_158 5 rfl ?_
                      refine j_imul jb dX9_readForetold_160 ?_
                      refine j_callV (wr := []) jb k_X9_readPart i_X9_readPart s_X9_readPart l_X9_63 (C_X9_readPart x.l x.g h0 s0 h1 x0 xc hv n b len fq pq (kind - 2) 0 fr ((j + 1) * (n / 2 ^ pp.toNat)) B c2 v1 hb (by omega) (by omega) (by omega) hcc (by rw [hfr]; exact hi6) hB (by omega) hi4 hi5) 0 11 rfl rfl rfl [0, 1, 2, 3, 4, 5] [] (by decide) rfl rfl (by decide) (by decide) rfl rfl (Nat.le_of_ble_eq_true rfl) (by decide) dX9_readForetold_161 (fun v w hp => ?_)
                      obtain ⟨f9, p9, v9, rfl, rfl, h161⟩ := hp
                      refine j_norm (lv' := [(0, .ref h0), (1, .ref hv), (2, .int (iI kind)), (3, .int (iI (kind - 2))), (4, .int (iI pp)), (5, .int (iI (n / 2 ^ pp.toNat))), (6, .int (iI j))]) (st' := []) (ws' := [(h0, oX9 s0 x0 n b), (s0, oX0 h1 len f9 p9), (h1, aI x.g 2400 B), (x0, oX1 xc (kind - 2) 0), (xc, aI x.g 4 c2), (hv, aI x.g 400 v9)]) [0, 1, 2, 3, 4, 5, 6] [0, 1, 2, 3, 4, 5] rfl rfl (by decide) rfl ?_
                      have cong161 : isR (sR fq (partR B len b (kind - 2) 0 (cFix (kind - 2)) fr ((j + 1) * (n / 2 ^ pp.toNat)) pq v1)) f9 p9 v9 := by (rw [partR_cc (show 0 ≤ kind - 2 by omega) (c := cFix (kind - 2)) (d := c2) (fun t h1 h2 => (h67 t h1 (by omega)).symm)]; exact h161.1)
                      refine j_iinc (lv' := [(6, .int (iI (j + 1))), (0, .ref h0), (1, .ref hv), (2, .int (iI kind)), (3, .int (iI (kind - 2))), (4, .int (iI pp)), (5, .int (iI (n / 2 ^ pp.toNat)))]) jb dX9_readForetold_164 6 rfl (by decide) rfl ?_
                      refine j_goto (tgt := 129) jb dX9_readForetold_167 (by decide) ?_
                      refine j_norm (lv' := [(0, .ref h0), (1, .ref hv), (2, .int (iI kind)), (3, .int (iI (kind - 2))), (4, .int (iI pp)), (5, .int (iI (n / 2 ^ pp.toNat))), (6, .int (iI (j + 1)))]) (st' := []) (ws' := [(h0, oX9 s0 x0 n b), (s0, oX0 h1 len f9 p9), (h1, aI x.g 2400 B), (x0, oX1 xc (kind - 2) 0), (xc, aI x.g 4 c2), (hv, aI x.g 400 v9)]) [1, 2, 3, 4, 5, 6, 0] [0, 1, 2, 3, 4, 5] rfl rfl (by decide) rfl ?_
                      exact ih129 (j + 1) f9 p9 v9 ⟨by omega, by omega, h161.2.1, h161.2.2.1, fun q => by rw [show pst (kind - 2) (n / 2 ^ pp.toNat) (j + 1) = (j + 1) * (n / 2 ^ pp.toNat) from if_neg (by omega)]; exact h161.2.2.2 q, partsR_step hi7 (by omega) (by rw [← hfr]; exact cong161)⟩ (by omega)
                    refine j_if_ne (tgt := 149) jb dX9_readForetold_142 (by decide) (by omega) (fun c_142 => ?_) (fun c_142 => ?_)
                    · skip
                      refine j_iload jb dX9_readForetold_149 6 rfl ?_
                      refine j_iload jb dX9_readForetold_151 5 rfl ?_
                      refine j_imul jb dX9_readForetold_153 ?_
                      refine j_norm (lv' := [(0, .ref h0), (1, .ref hv), (2, .int (iI kind)), (3, .int (iI (kind - 2))), (4, .int (iI pp)), (5, .int (iI (n / 2 ^ pp.toNat))), (6, .int (iI j))]) (st' := [.int (iI (j * (n / 2 ^ pp.toNat))), .ref hv, .ref h0]) (ws' := [(h0, oX9 s0 x0 n b), (s0, oX0 h1 len fq pq), (h1, aI x.g 2400 B), (x0, oX1 xc (kind - 2) 0), (xc, aI x.g 4 c2), (hv, aI x.g 400 v1)]) [0, 1, 2, 3, 4, 5, 6] [0, 1, 2, 3, 4, 5] rfl rfl (by decide) rfl ?_
                      exact J154 (j * (n / 2 ^ pp.toNat)) (by unfold pst; first | (rw [if_pos c_142]; done) | (rw [if_neg c_142]; done))
                    · skip
                      refine j_iload_n jb dX9_readForetold_145 3 rfl ?_
                      refine j_goto (tgt := 154) jb dX9_readForetold_146 (by decide) ?_
                      refine j_norm (lv' := [(0, .ref h0), (1, .ref hv), (2, .int (iI kind)), (3, .int (iI (kind - 2))), (4, .int (iI pp)), (5, .int (iI (n / 2 ^ pp.toNat))), (6, .int (iI j))]) (st' := [.int (iI (kind - 2)), .ref hv, .ref h0]) (ws' := [(h0, oX9 s0 x0 n b), (s0, oX0 h1 len fq pq), (h1, aI x.g 2400 B), (x0, oX1 xc (kind - 2) 0), (xc, aI x.g 4 c2), (hv, aI x.g 400 v1)]) [0, 1, 2, 3, 4, 5, 6] [0, 1, 2, 3, 4, 5] rfl rfl (by decide) rfl ?_
                      exact J154 (kind - 2) (by unfold pst; first | (rw [if_pos c_142]; done) | (rw [if_neg c_142]; done))
              refine j_norm (lv' := [(0, .ref h0), (1, .ref hv), (2, .int (iI kind)), (3, .int (iI (kind - 2))), (4, .int (iI pp)), (5, .int (iI (n / 2 ^ pp.toNat))), (6, .int (iI 0))]) (st' := []) (ws' := [(h0, oX9 s0 x0 n b), (s0, oX0 h1 len f7 p6), (h1, aI x.g 2400 B), (x0, oX1 xc (kind - 2) 0), (xc, aI x.g 4 c2), (hv, aI x.g 400 v5)]) [2, 3, 4, 5, 6, 1, 0] [0, 1, 2, 3, 4, 5] rfl rfl (by decide) rfl ?_
              exact L129 _ 0 f7 p6 v5 ⟨by decide, by omega, hf7, hp6, fun _ => by rw [show pst (kind - 2) (n / 2 ^ pp.toNat) 0 = (kind - 2) from if_pos rfl]; exact h73.2.2.2, by rw [Int.sub_zero, show ((2 : Int) ^ pp.toNat).toNat = 2 ^ pp.toNat from Int.toNat_natCast (2 ^ pp.toNat)]; exact hc7⟩ (Nat.lt_succ_self _)
            · skip
              refine j_norm (lv' := []) (st' := []) (ws' := [(h0, oX9 s0 x0 n b), (s0, oX0 h1 len f7 p6), (h1, aI x.g 2400 B), (x0, oX1 xc (kind - 2) 0), (xc, aI x.g 4 c2), (hv, aI x.g 400 v5)]) [] [0, 1, 2, 3, 4, 5] rfl rfl (by decide) rfl ?_
              exact j_vret jb jr dX9_readForetold_116 ⟨_, _, _, _, _, _, rfl, rfl, (by rw [← hR0]; exact ⟨cI_bad hc7 c_113, hf7, hp6, hcc, fun q => absurd q c_113⟩)⟩
          refine j_ifb_ne (tgt := 107) jb dX9_readForetold_100 (by decide) (fun c_100 => ?_) (fun c_100 => ?_)
          · skip
            refine j_iconst jb dX9_readForetold_107 ?_
            refine j_norm (lv' := [(0, .ref h0), (1, .ref hv), (2, .int (iI kind)), (3, .int (iI (kind - 2))), (4, .int (iI pp))]) (st' := [.int (iI 0), .ref s0]) (ws' := [(h0, oX9 s0 x0 n b), (s0, oX0 h1 len f6 p6), (h1, aI x.g 2400 B), (x0, oX1 xc (kind - 2) 0), (xc, aI x.g 4 c2), (hv, aI x.g 400 v5)]) [1, 2, 3, 4, 0] [0, 1, 2, 3, 4, 5] rfl rfl (by decide) rfl ?_
            exact J108 0 (Or.inr ⟨rfl, fun q => q c_100⟩)
          · skip
            refine j_iconst jb dX9_readForetold_103 ?_
            refine j_goto (tgt := 108) jb dX9_readForetold_104 (by decide) ?_
            refine j_norm (lv' := [(0, .ref h0), (1, .ref hv), (2, .int (iI kind)), (3, .int (iI (kind - 2))), (4, .int (iI pp))]) (st' := [.int (iI 1), .ref s0]) (ws' := [(h0, oX9 s0 x0 n b), (s0, oX0 h1 len f6 p6), (h1, aI x.g 2400 B), (x0, oX1 xc (kind - 2) 0), (xc, aI x.g 4 c2), (hv, aI x.g 400 v5)]) [1, 2, 3, 4, 0] [0, 1, 2, 3, 4, 5] rfl rfl (by decide) rfl ?_
            exact J108 1 (Or.inl ⟨rfl, c_100⟩)
        · skip
          exact absurd c_51 (by omega)
      · skip
        refine j_norm (lv' := []) (st' := []) (ws' := [(h0, oX9 s0 x0 n b), (s0, oX0 h1 len f2 pos), (h1, aI x.g 2400 B), (x0, oX1 xc o sh), (xc, aI x.g 4 cf), (hv, aI x.g 400 v)]) [] [0, 1, 2, 3, 4, 5] rfl rfl (by decide) rfl ?_
        exact j_vret jb jr dX9_readForetold_47 ⟨_, _, _, _, _, _, rfl, rfl, (by rw [← hR0]; exact ⟨cI_bad hc2 c_44, hf2, hp, hcf, fun q => absurd q c_44⟩)⟩
    refine j_icmp_le (tgt := 39) jb dX9_readForetold_32 (by decide) (by omega) (by omega) (fun c_32 => ?_) (fun c_32 => ?_)
    · skip
      refine j_iconst jb dX9_readForetold_39 ?_
      refine j_norm (lv' := [(0, .ref h0), (1, .ref hv), (2, .int (iI kind)), (3, .int (iI (kind - 2)))]) (st' := [.int (iI 0), .ref s0]) (ws' := [(h0, oX9 s0 x0 n b), (s0, oX0 h1 len fa pos), (h1, aI x.g 2400 B), (x0, oX1 xc o sh), (xc, aI x.g 4 cf), (hv, aI x.g 400 v)]) [1, 2, 3, 0] [0, 1, 2, 3, 4, 5] rfl rfl (by decide) rfl ?_
      exact J40 0 (by omega)
    · skip
      refine j_iconst jb dX9_readForetold_35 ?_
      refine j_goto (tgt := 40) jb dX9_readForetold_36 (by decide) ?_
      refine j_norm (lv' := [(0, .ref h0), (1, .ref hv), (2, .int (iI kind)), (3, .int (iI (kind - 2)))]) (st' := [.int (iI 1), .ref s0]) (ws' := [(h0, oX9 s0 x0 n b), (s0, oX0 h1 len fa pos), (h1, aI x.g 2400 B), (x0, oX1 xc o sh), (xc, aI x.g 4 cf), (hv, aI x.g 400 v)]) [1, 2, 3, 0] [0, 1, 2, 3, 4, 5] rfl rfl (by decide) rfl ?_
      exact J40 1 (by omega)
  · skip
    exact absurd c_3 (by omega)

