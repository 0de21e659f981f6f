set_option maxHeartbeats 4000000 in
set_option maxRecDepth 100000 in
theorem C_X9_readRow (l : Launch) (g : GG) (h0 s0 h1 x0 xc hv : Nat) (n b len fa pos o sh cnt rb : Int) (B cf v : Int → Int) (hn : 1 ≤ cnt ∧ cnt ≤ 400) (hrb : 1 ≤ rb ∧ rb ≤ 17) (hcf : cfOk cf) (hf0 : fa = 0) (hB : isBytes B) (hl : 0 ≤ len ∧ len ≤ 2400) (hfa : 0 ≤ fa ∧ fa ≤ 20) (hp : 0 ≤ pos ∧ pos ≤ 8 * len) : Ctr l g yX9_readRow cX9_readRow 7 (some .int) 5 150 0 0 [.ref h0, .ref hv, .int (iI cnt), .int (iI rb)] [(h0, oX9 s0 x0 n b), (s0, oX0 h1 len fa pos), (h1, aI g 2400 B), (x0, oX1 xc o sh), (xc, aI g 4 cf), (hv, aI g 400 v)] (fun vv ww => ∃ (kd fa2 pos2 b2 o2 sh2 : Int) (v2 c2 : Int → Int), vv = some (.int (iI kd)) ∧ ww = [(h0, oX9 s0 x0 cnt b2), (s0, oX0 h1 len fa2 pos2), (h1, aI g 2400 B), (x0, oX1 xc o2 sh2), (xc, aI g 4 c2), (hv, aI g 400 v2)] ∧ isRn cnt (rowR B len cnt rb z0 pos z0) fa2 pos2 v2 ∧ (0 ≤ fa2 ∧ fa2 ≤ 20) ∧ (0 ≤ pos2 ∧ pos2 ≤ 8 * len) ∧ cfOk c2 ∧ (0 ≤ kd ∧ kd ≤ 7) ∧ (fa2 = 0 → fitOn v2 rb cnt ∧ kd = num B pos 3)) := by
  refine Ctr.of [(0, .ref h0), (1, .ref hv), (2, .int (iI cnt)), (3, .int (iI rb))] (by decide) (Nat.le_of_ble_eq_true rfl) rfl ?_
  intro x hxl hxg jb jr hin
  subst hxl; subst hxg
  obtain ⟨R0, hR0⟩ : ∃ R : RR, R = (rowR B len cnt rb z0 pos z0) := ⟨_, rfl⟩
  have hc0 : contI R0 fa (rowR B len cnt rb z0 pos z0) := cI_0 hf0 hR0
  refine j_aload_n jb dX9_readRow_0 0 rfl ?_
  refine j_iload_n jb dX9_readRow_1 2 rfl ?_
  refine j_put (ws' := [(h0, oX9 s0 x0 cnt b), (s0, oX0 h1 len fa pos), (h1, aI x.g 2400 B), (x0, oX1 xc o sh), (xc, aI x.g 4 cf), (hv, aI x.g 400 v)]) jb f_X9_22 w_X9_2 rfl dX9_readRow_2 0 rfl rfl rfl (Nat.le_of_ble_eq_true rfl) rfl ?_
  refine j_aload_n jb dX9_readRow_5 0 rfl ?_
  refine j_get jb f_X9_18 dX9_readRow_6 0 rfl rfl ?_
  refine j_iconst jb dX9_readRow_9 ?_
  refine j_callV (wr := [(h0, oX9 s0 x0 cnt b), (x0, oX1 xc o sh), (xc, aI x.g 4 cf), (hv, aI x.g 400 v)]) jb k_X0_read i_X0_read s_X0_read l_X9_26 (C_X0_read x.l x.g s0 h1 B len fa pos 3 hB (by omega) (by omega) (by decide) (by omega)) 1 2 rfl rfl rfl [1, 2] [0, 3, 4, 5] (by decide) rfl rfl (by decide) (by decide) rfl rfl (Nat.le_of_ble_eq_true rfl) (by decide) dX9_readRow_10 (fun v w hp => ?_)
  obtain ⟨kd, f1, p1, rfl, rfl, h10⟩ := hp
  refine j_norm (lv' := [(0, .ref h0), (1, .ref hv), (2, .int (iI cnt)), (3, .int (iI rb))]) (st' := [.int (iI kd)]) (ws' := [(h0, oX9 s0 x0 cnt b), (s0, oX0 h1 len f1 p1), (h1, aI x.g 2400 B), (x0, oX1 xc o sh), (xc, aI x.g 4 cf), (hv, aI x.g 400 v)]) [0, 1, 2, 3] [0, 4, 5, 1, 2, 3] rfl rfl (by decide) rfl ?_
  have hkd := rd_in (M := 8) h10 (num_in B pos (3 : Int).toNat)
  have hc1 := cI_get (f := fun kind p => getR B len 4 p (fun w p2 => fltR (rb ≤ w) 4 (shlR w (bodyR B len cnt (rb - w) kind z0 p2 z0)))) hc0 h10
  have hf1 := rd_fa h10
  have hp1 := rd_pos h10 (by decide) hp
  refine j_istore (lv' := [(4, .int (iI kd)), (0, .ref h0), (1, .ref hv), (2, .int (iI cnt)), (3, .int (iI rb))]) jb dX9_readRow_13 (by decide) rfl ?_
  refine j_aload_n jb dX9_readRow_15 1 rfl ?_
  refine j_get jb f_X9_18 dX9_readRow_16 0 rfl rfl ?_
  refine j_iconst jb dX9_readRow_19 ?_
  refine j_callV (wr := [(h0, oX9 s0 x0 cnt b), (x0, oX1 xc o sh), (xc, aI x.g 4 cf), (hv, aI x.g 400 v)]) jb k_X0_read i_X0_read s_X0_read l_X9_26 (C_X0_read x.l x.g s0 h1 B len f1 p1 4 hB (by omega) (by omega) (by decide) (by omega)) 1 2 rfl rfl rfl [1, 2] [0, 3, 4, 5] (by decide) rfl rfl (by decide) (by decide) rfl rfl (Nat.le_of_ble_eq_true rfl) (by decide) dX9_readRow_20 (fun v w hp => ?_)
  obtain ⟨w, f2, p2, rfl, rfl, h20⟩ := hp
  refine j_norm (lv' := [(4, .int (iI kd)), (0, .ref h0), (1, .ref hv), (2, .int (iI cnt)), (3, .int (iI rb))]) (st' := [.int (iI w)]) (ws' := [(h0, oX9 s0 x0 cnt b), (s0, oX0 h1 len f2 p2), (h1, aI x.g 2400 B), (x0, oX1 xc o sh), (xc, aI x.g 4 cf), (hv, aI x.g 400 v)]) [0, 1, 2, 3, 4] [0, 4, 5, 1, 2, 3] rfl rfl (by decide) rfl ?_
  have hw := rd_in (M := 16) h20 (num_in B p1 (4 : Int).toNat)
  have hc2 := cI_get (f := fun w p2 => fltR (rb ≤ w) 4 (shlR w (bodyR B len cnt (rb - w) kd z0 p2 z0))) hc1 h20
  have hf2 := rd_fa h20
  have hp2 := rd_pos h20 (by decide) hp1
  refine j_istore (lv' := [(5, .int (iI w)), (4, .int (iI kd)), (0, .ref h0), (1, .ref hv), (2, .int (iI cnt)), (3, .int (iI rb))]) jb dX9_readRow_23 (by decide) rfl ?_
  refine j_aload_n jb dX9_readRow_25 2 rfl ?_
  refine j_get jb f_X9_18 dX9_readRow_26 0 rfl rfl ?_
  refine j_iload jb dX9_readRow_29 0 rfl ?_
  refine j_iload_n jb dX9_readRow_31 5 rfl ?_
  have J40 : ∀ (wr : Int), ((wr = 1 ∧ rb ≤ w) ∨ (wr = 0 ∧ ¬ rb ≤ w)) → JW x 0 0 40 [(0, .ref h0), (1, .ref hv), (2, .int (iI cnt)), (3, .int (iI rb)), (4, .int (iI kd)), (5, .int (iI w))] [.int (iI wr), .ref s0] [(h0, oX9 s0 x0 cnt b), (s0, oX0 h1 len f2 p2), (h1, aI x.g 2400 B), (x0, oX1 xc o sh), (xc, aI x.g 4 cf), (hv, aI x.g 400 v)] := by
    intro wr hj40
    refine j_iconst jb dX9_readRow_40 ?_
    refine j_callV (wr := [(h0, oX9 s0 x0 cnt b), (h1, aI x.g 2400 B), (x0, oX1 xc o sh), (xc, aI x.g 4 cf), (hv, aI x.g 400 v)]) jb k_X0_faultIf i_X0_faultIf s_X0_faultIf l_X9_32 (C_X0_faultIf x.l x.g s0 h1 len f2 p2 wr 4 (by have := wrIn hj40; omega) (by omega) (by omega)) 1 2 rfl rfl rfl [1] [0, 2, 3, 4, 5] (by decide) rfl rfl (by decide) (by decide) rfl rfl (Nat.le_of_ble_eq_true rfl) (by decide) dX9_readRow_41 (fun v w hp => ?_)
    obtain ⟨f3, rfl, rfl, h41⟩ := hp
    refine j_norm (lv' := [(0, .ref h0), (1, .ref hv), (2, .int (iI cnt)), (3, .int (iI rb)), (4, .int (iI kd)), (5, .int (iI w))]) (st' := [.int (iI (b2i (f3 ≠ 0)))]) (ws' := [(h0, oX9 s0 x0 cnt b), (s0, oX0 h1 len f3 p2), (h1, aI x.g 2400 B), (x0, oX1 xc o sh), (xc, aI x.g 4 cf), (hv, aI x.g 400 v)]) [0, 1, 2, 3, 4, 5] [0, 5, 1, 2, 3, 4] rfl rfl (by decide) rfl ?_
    have hc3 := cI_flt hc2 h41 (by decide) (wr1 hj40)
    have hf3 := flt_in h41 (by omega) (by decide)
    refine j_ifb_eq (tgt := 50) jb dX9_readRow_44 (by decide) (fun c_44 => ?_) (fun c_44 => ?_)
    · skip
      have hf30 : f3 = 0 := by omega
      have hwb := wr0 hj40 (flt_0 h41 (by decide) hf30).1
      have hf10 := rd_st h20 (flt_0 h41 (by decide) hf30).2
      have hkn : kd = num B pos 3 := by (by_cases q : fa = 0 ∧ pos + 3 ≤ 8 * len; { exact (h10.1 q).2.2 }; { have z := (h10.2 q).1; rw [if_pos hf0] at z; omega })
      refine j_aload_n jb dX9_readRow_50 0 rfl ?_
      refine j_iload_n jb dX9_readRow_51 3 rfl ?_
      refine j_iload jb dX9_readRow_52 5 rfl ?_
      refine j_isub jb dX9_readRow_54 ?_
      refine j_put (ws' := [(h0, oX9 s0 x0 cnt (rb - w)), (s0, oX0 h1 len f3 p2), (h1, aI x.g 2400 B), (x0, oX1 xc o sh), (xc, aI x.g 4 cf), (hv, aI x.g 400 v)]) jb f_X9_36 w_X9_3 rfl dX9_readRow_55 0 rfl rfl rfl (Nat.le_of_ble_eq_true rfl) rfl ?_
      refine j_iload jb dX9_readRow_58 4 rfl ?_
      have J107 : ∀ (f5 p5 o5 sh5 : Int) (v5 c5 : Int → Int), (isRn cnt (bodyR B len cnt (rb - w) kd z0 p2 z0) f5 p5 v5 ∧ (0 ≤ f5 ∧ f5 ≤ 20) ∧ (0 ≤ p5 ∧ p5 ≤ 8 * len) ∧ cfOk c5 ∧ (f5 = 0 → fitOn v5 (rb - w) cnt)) → JW x 0 0 107 [(0, .ref h0), (1, .ref hv), (2, .int (iI cnt)), (3, .int (iI rb)), (4, .int (iI kd)), (5, .int (iI w))] [] [(h0, oX9 s0 x0 cnt (rb - w)), (s0, oX0 h1 len f5 p5), (h1, aI x.g 2400 B), (x0, oX1 xc o5 sh5), (xc, aI x.g 4 c5), (hv, aI x.g 400 v5)] := by
        intro f5 p5 o5 sh5 v5 c5 hj107
        refine j_iconst jb dX9_readRow_107 ?_
        refine j_istore (lv' := [(6, .int (iI 0)), (0, .ref h0), (1, .ref hv), (2, .int (iI cnt)), (3, .int (iI rb)), (4, .int (iI kd)), (5, .int (iI w))]) jb dX9_readRow_108 (by decide) rfl ?_
        have L110 : ∀ (fu : Nat) (i : Int) (v6 : Int → Int), (0 ≤ i ∧ i ≤ cnt ∧ (∀ j, 0 ≤ j → j < i → v6 j = v5 j * 2 ^ w.toNat) ∧ (∀ j, i ≤ j → v6 j = v5 j)) → (cnt - i).toNat < fu → JW x 0 0 110 [(0, .ref h0), (1, .ref hv), (2, .int (iI cnt)), (3, .int (iI rb)), (4, .int (iI kd)), (5, .int (iI w)), (6, .int (iI i))] [] [(h0, oX9 s0 x0 cnt (rb - w)), (s0, oX0 h1 len f5 p5), (h1, aI x.g 2400 B), (x0, oX1 xc o5 sh5), (xc, aI x.g 4 c5), (hv, aI x.g 400 v6)] := by
          intro fu
          induction fu with
          | zero => intro i v6 _ hm; exact absurd hm (by omega)
          | succ fu ih =>
            intro i v6 ⟨hi1, hi2, hi3, hi4⟩ hm110
            have ih110 := ih
            clear ih
            refine j_iload jb dX9_readRow_110 6 rfl ?_
            refine j_aload_n jb dX9_readRow_112 0 rfl ?_
            refine j_get jb f_X9_22 dX9_readRow_113 0 rfl rfl ?_
            refine j_icmp_ge (tgt := 134) jb dX9_readRow_116 (by decide) (by omega) (by omega) (fun c_116 => ?_) (fun c_116 => ?_)
            · skip
              refine j_iload jb dX9_readRow_134 4 rfl ?_
              refine j_norm (lv' := []) (st' := [.int (iI kd)]) (ws' := [(h0, oX9 s0 x0 cnt (rb - w)), (s0, oX0 h1 len f5 p5), (h1, aI x.g 2400 B), (x0, oX1 xc o5 sh5), (xc, aI x.g 4 c5), (hv, aI x.g 400 v6)]) [] [0, 1, 2, 3, 4, 5] rfl rfl (by decide) rfl ?_
              exact j_iret jb jr dX9_readRow_136 ⟨_, _, _, _, _, _, _, _, rfl, rfl, (by rw [← hR0]; have z : ∀ j, 0 ≤ j → j < cnt → v6 j = v5 j * 2 ^ w.toNat := (fun j h1 h2 => hi3 j h1 (by omega)); exact ⟨isRn_shl hj107.1 z (hc3.1 hf30), hj107.2.1, hj107.2.2.1, hj107.2.2.2.1, by omega, fun q => ⟨fitOn_shl (by omega) hw.1 (by omega) (hj107.2.2.2.2 q) z, hkn⟩⟩)⟩
            · skip
              refine j_aload_n jb dX9_readRow_119 1 rfl ?_
              refine j_iload jb dX9_readRow_120 6 rfl ?_
              refine j_dup2 jb dX9_readRow_122 rfl rfl ?_
              refine j_iald jb dX9_readRow_123 5 rfl (by omega) (by decide) ?_
              refine j_iload jb dX9_readRow_124 5 rfl ?_
              refine j_ishl jb dX9_readRow_126 (by omega) ?_
              refine j_iast (ws' := [(h0, oX9 s0 x0 cnt (rb - w)), (s0, oX0 h1 len f5 p5), (h1, aI x.g 2400 B), (x0, oX1 xc o5 sh5), (xc, aI x.g 4 c5), (hv, aI x.g 400 (zup v6 i ((v6 i) * 2 ^ w.toNat)))]) jb dX9_readRow_127 5 rfl (by omega) (by decide) rfl ?_
              refine j_iinc (lv' := [(6, .int (iI (i + 1))), (0, .ref h0), (1, .ref hv), (2, .int (iI cnt)), (3, .int (iI rb)), (4, .int (iI kd)), (5, .int (iI w))]) jb dX9_readRow_128 6 rfl (by decide) rfl ?_
              refine j_goto (tgt := 110) jb dX9_readRow_131 (by decide) ?_
              refine j_norm (lv' := [(0, .ref h0), (1, .ref hv), (2, .int (iI cnt)), (3, .int (iI rb)), (4, .int (iI kd)), (5, .int (iI w)), (6, .int (iI (i + 1)))]) (st' := []) (ws' := [(h0, oX9 s0 x0 cnt (rb - w)), (s0, oX0 h1 len f5 p5), (h1, aI x.g 2400 B), (x0, oX1 xc o5 sh5), (xc, aI x.g 4 c5), (hv, aI x.g 400 (zup v6 i ((v6 i) * 2 ^ w.toNat)))]) [1, 2, 3, 4, 5, 6, 0] [0, 1, 2, 3, 4, 5] rfl rfl (by decide) rfl ?_
              exact ih110 (i + 1) (zup v6 i ((v6 i) * 2 ^ w.toNat)) ⟨by omega, by omega, fun j h1 h2 => by (by_cases e : j = i); { rw [e, zup_s, hi4 i (Int.le_refl _)] }; { rw [zup_n e]; exact hi3 j h1 (by omega) }, fun j h1 => by rw [zup_n (by omega)]; exact hi4 j (by omega)⟩ (by omega)
        refine j_norm (lv' := [(0, .ref h0), (1, .ref hv), (2, .int (iI cnt)), (3, .int (iI rb)), (4, .int (iI kd)), (5, .int (iI w)), (6, .int (iI 0))]) (st' := []) (ws' := [(h0, oX9 s0 x0 cnt (rb - w)), (s0, oX0 h1 len f5 p5), (h1, aI x.g 2400 B), (x0, oX1 xc o5 sh5), (xc, aI x.g 4 c5), (hv, aI x.g 400 v5)]) [1, 2, 3, 4, 5, 6, 0] [0, 1, 2, 3, 4, 5] rfl rfl (by decide) rfl ?_
        exact L110 _ 0 v5 ⟨by decide, by omega, fun j h1 h2 => by omega, fun j _ => rfl⟩ (Nat.lt_succ_self _)
      refine j_if_ne (tgt := 82) jb dX9_readRow_60 (by decide) (by omega) (fun c_60 => ?_) (fun c_60 => ?_)
      · skip
        refine j_iload jb dX9_readRow_82 4 rfl ?_
        refine j_iconst jb dX9_readRow_84 ?_
        refine j_icmp_ne (tgt := 100) jb dX9_readRow_85 (by decide) (by omega) (by omega) (fun c_85 => ?_) (fun c_85 => ?_)
        · skip
          rcases (show kd = 7 ∨ (2 ≤ kd ∧ kd ≤ 6) by omega) with e | e
          · skip
            subst e
            refine j_aload_n jb dX9_readRow_100 0 rfl ?_
            refine j_aload_n jb dX9_readRow_101 1 rfl ?_
            refine j_iload jb dX9_readRow_102 4 rfl ?_
            refine j_callV (wr := []) jb k_X9_readForetold i_X9_readForetold s_X9_readForetold l_X9_49 (C_X9_readForetold_7 x.l x.g h0 s0 h1 x0 xc hv cnt (rb - w) len f3 p2 o sh B cf v hn (by omega) hcf hf30 hB hl (by omega) hp2) 0 11 rfl rfl rfl [0, 1, 2, 3, 4, 5] [] (by decide) rfl rfl (by decide) (by decide) rfl rfl (Nat.le_of_ble_eq_true rfl) (by decide) dX9_readRow_104 (fun v w hp => ?_)
            obtain ⟨f5, p5, o5, sh5, v5, c5, rfl, rfl, h104⟩ := hp
            refine j_norm (lv' := [(0, .ref h0), (1, .ref hv), (2, .int (iI cnt)), (3, .int (iI rb)), (4, .int (iI 7)), (5, .int (iI w))]) (st' := []) (ws' := [(h0, oX9 s0 x0 cnt (rb - w)), (s0, oX0 h1 len f5 p5), (h1, aI x.g 2400 B), (x0, oX1 xc o5 sh5), (xc, aI x.g 4 c5), (hv, aI x.g 400 v5)]) [0, 1, 2, 3, 4, 5] [0, 1, 2, 3, 4, 5] rfl rfl (by decide) rfl ?_
            refine j_norm (lv' := [(0, .ref h0), (1, .ref hv), (2, .int (iI cnt)), (3, .int (iI rb)), (4, .int (iI 7)), (5, .int (iI w))]) (st' := []) (ws' := [(h0, oX9 s0 x0 cnt (rb - w)), (s0, oX0 h1 len f5 p5), (h1, aI x.g 2400 B), (x0, oX1 xc o5 sh5), (xc, aI x.g 4 c5), (hv, aI x.g 400 v5)]) [0, 1, 2, 3, 4, 5] [0, 1, 2, 3, 4, 5] rfl rfl (by decide) rfl ?_
            exact J107 f5 p5 o5 sh5 v5 c5 ⟨by unfold bodyR; rw [if_neg c_60, if_neg c_85]; exact isRn_of h104.1 (foreR_cg (by omega)), h104.2.1, h104.2.2.1, h104.2.2.2.1, h104.2.2.2.2⟩
          · skip
            refine j_aload_n jb dX9_readRow_100 0 rfl ?_
            refine j_aload_n jb dX9_readRow_101 1 rfl ?_
            refine j_iload jb dX9_readRow_102 4 rfl ?_
            refine j_callV (wr := []) jb k_X9_readForetold i_X9_readForetold s_X9_readForetold l_X9_49 (C_X9_readForetold_f x.l x.g h0 s0 h1 x0 xc hv cnt (rb - w) len f3 p2 o sh kd B cf v e hn (by omega) hcf hf30 hB hl (by omega) hp2) 0 11 rfl rfl rfl [0, 1, 2, 3, 4, 5] [] (by decide) rfl rfl (by decide) (by decide) rfl rfl (Nat.le_of_ble_eq_true rfl) (by decide) dX9_readRow_104 (fun v w hp => ?_)
            obtain ⟨f5, p5, o5, sh5, v5, c5, rfl, rfl, h104⟩ := hp
            refine j_norm (lv' := [(0, .ref h0), (1, .ref hv), (2, .int (iI cnt)), (3, .int (iI rb)), (4, .int (iI kd)), (5, .int (iI w))]) (st' := []) (ws' := [(h0, oX9 s0 x0 cnt (rb - w)), (s0, oX0 h1 len f5 p5), (h1, aI x.g 2400 B), (x0, oX1 xc o5 sh5), (xc, aI x.g 4 c5), (hv, aI x.g 400 v5)]) [0, 1, 2, 3, 4, 5] [0, 1, 2, 3, 4, 5] rfl rfl (by decide) rfl ?_
            refine j_norm (lv' := [(0, .ref h0), (1, .ref hv), (2, .int (iI cnt)), (3, .int (iI rb)), (4, .int (iI kd)), (5, .int (iI w))]) (st' := []) (ws' := [(h0, oX9 s0 x0 cnt (rb - w)), (s0, oX0 h1 len f5 p5), (h1, aI x.g 2400 B), (x0, oX1 xc o5 sh5), (xc, aI x.g 4 c5), (hv, aI x.g 400 v5)]) [0, 1, 2, 3, 4, 5] [0, 1, 2, 3, 4, 5] rfl rfl (by decide) rfl ?_
            exact J107 f5 p5 o5 sh5 v5 c5 ⟨by unfold bodyR; rw [if_neg c_60, if_neg c_85]; exact isRn_of h104.1 (foreR_cg (by omega)), h104.2.1, h104.2.2.1, h104.2.2.2.1, h104.2.2.2.2⟩
        · skip
          refine j_aload_n jb dX9_readRow_88 0 rfl ?_
          refine j_aload_n jb dX9_readRow_89 1 rfl ?_
          refine j_aload_n jb dX9_readRow_90 0 rfl ?_
          refine j_get jb f_X9_22 dX9_readRow_91 0 rfl rfl ?_
          refine j_callV (wr := [(x0, oX1 xc o sh), (xc, aI x.g 4 cf)]) jb k_X9_readValues i_X9_readValues s_X9_readValues l_X9_46 (C_X9_readValues x.l x.g h0 s0 h1 x0 hv cnt (rb - w) len f3 p2 cnt B v (by omega) (by omega) hB (by omega) (by omega) (by omega)) 0 11 rfl rfl rfl [0, 1, 2, 5] [3, 4] (by decide) rfl rfl (by decide) (by decide) rfl rfl (Nat.le_of_ble_eq_true rfl) (by decide) dX9_readRow_94 (fun v w hp => ?_)
          obtain ⟨f5, p5, v5, rfl, rfl, h94⟩ := hp
          refine j_norm (lv' := [(0, .ref h0), (1, .ref hv), (2, .int (iI cnt)), (3, .int (iI rb)), (4, .int (iI kd)), (5, .int (iI w))]) (st' := []) (ws' := [(h0, oX9 s0 x0 cnt (rb - w)), (s0, oX0 h1 len f5 p5), (h1, aI x.g 2400 B), (x0, oX1 xc o sh), (xc, aI x.g 4 cf), (hv, aI x.g 400 v5)]) [0, 1, 2, 3, 4, 5] [2, 3, 4, 0, 1, 5] rfl rfl (by decide) rfl ?_
          refine j_goto (tgt := 107) jb dX9_readRow_97 (by decide) ?_
          refine j_norm (lv' := [(0, .ref h0), (1, .ref hv), (2, .int (iI cnt)), (3, .int (iI rb)), (4, .int (iI kd)), (5, .int (iI w))]) (st' := []) (ws' := [(h0, oX9 s0 x0 cnt (rb - w)), (s0, oX0 h1 len f5 p5), (h1, aI x.g 2400 B), (x0, oX1 xc o sh), (xc, aI x.g 4 cf), (hv, aI x.g 400 v5)]) [0, 1, 2, 3, 4, 5] [0, 1, 2, 3, 4, 5] rfl rfl (by decide) rfl ?_
          exact J107 f5 p5 o sh v5 cf ⟨by unfold bodyR; rw [if_neg c_60, if_pos c_85]; rw [sR_0 hf30] at h94; exact isRn_of h94.1 (eqR_less (valsR_cg _ _ _ _ _ (fun j h1 h2 => by omega)) (by omega)), h94.2.1, h94.2.2.1, hcf, fun _ => h94.2.2.2⟩
      · skip
        refine j_aload_n jb dX9_readRow_63 0 rfl ?_
        refine j_aload_n jb dX9_readRow_64 1 rfl ?_
        refine j_aload_n jb dX9_readRow_65 0 rfl ?_
        refine j_get jb f_X9_18 dX9_readRow_66 0 rfl rfl ?_
        refine j_aload_n jb dX9_readRow_69 0 rfl ?_
        refine j_get jb f_X9_36 dX9_readRow_70 0 rfl rfl ?_
        refine j_callV (wr := [(h0, oX9 s0 x0 cnt (rb - w)), (x0, oX1 xc o sh), (xc, aI x.g 4 cf), (hv, aI x.g 400 v)]) jb k_X0_readSigned i_X0_readSigned s_X0_readSigned l_X9_39 (C_X0_readSigned x.l x.g s0 h1 B len f3 p2 (rb - w) hB (by omega) (by omega) (by omega) (by omega)) 1 2 rfl rfl rfl [1, 2] [0, 3, 4, 5] (by decide) rfl rfl (by decide) (by decide) rfl rfl (Nat.le_of_ble_eq_true rfl) (by decide) dX9_readRow_73 (fun v w hp => ?_)
        obtain ⟨r5, f5, p5, rfl, rfl, h73⟩ := hp
        refine j_norm (lv' := [(0, .ref h0), (1, .ref hv), (2, .int (iI cnt)), (3, .int (iI rb)), (4, .int (iI kd)), (5, .int (iI w))]) (st' := [.int (iI r5), .ref hv, .ref h0]) (ws' := [(h0, oX9 s0 x0 cnt (rb - w)), (s0, oX0 h1 len f5 p5), (h1, aI x.g 2400 B), (x0, oX1 xc o sh), (xc, aI x.g 4 cf), (hv, aI x.g 400 v)]) [0, 1, 2, 3, 4, 5] [0, 4, 5, 1, 2, 3] rfl rfl (by decide) rfl ?_
        refine j_callV (wr := [(s0, oX0 h1 len f5 p5), (h1, aI x.g 2400 B), (x0, oX1 xc o sh), (xc, aI x.g 4 cf)]) jb k_X9_fillRow i_X9_fillRow s_X9_fillRow l_X9_42 (C_X9_fillRow x.l x.g h0 s0 x0 hv cnt (rb - w) r5 v (by omega)) 0 11 rfl rfl rfl [0, 5] [1, 2, 3, 4] (by decide) rfl rfl (by decide) (by decide) rfl rfl (Nat.le_of_ble_eq_true rfl) (by decide) dX9_readRow_76 (fun v w hp => ?_)
        obtain ⟨v5, rfl, rfl, h76⟩ := hp
        refine j_norm (lv' := [(0, .ref h0), (1, .ref hv), (2, .int (iI cnt)), (3, .int (iI rb)), (4, .int (iI kd)), (5, .int (iI w))]) (st' := []) (ws' := [(h0, oX9 s0 x0 cnt (rb - w)), (s0, oX0 h1 len f5 p5), (h1, aI x.g 2400 B), (x0, oX1 xc o sh), (xc, aI x.g 4 cf), (hv, aI x.g 400 v5)]) [0, 1, 2, 3, 4, 5] [4, 0, 1, 2, 3, 5] rfl rfl (by decide) rfl ?_
        refine j_goto (tgt := 107) jb dX9_readRow_79 (by decide) ?_
        refine j_norm (lv' := [(0, .ref h0), (1, .ref hv), (2, .int (iI cnt)), (3, .int (iI rb)), (4, .int (iI kd)), (5, .int (iI w))]) (st' := []) (ws' := [(h0, oX9 s0 x0 cnt (rb - w)), (s0, oX0 h1 len f5 p5), (h1, aI x.g 2400 B), (x0, oX1 xc o sh), (xc, aI x.g 4 cf), (hv, aI x.g 400 v5)]) [0, 1, 2, 3, 4, 5] [0, 1, 2, 3, 4, 5] rfl rfl (by decide) rfl ?_
        exact J107 f5 p5 o sh v5 cf ⟨by unfold bodyR; rw [if_pos c_60]; exact isRn_like h73 hf30 h76, by have := rd_fa h73; omega, rd_pos h73 (by omega) hp2, hcf, fun _ j h1 h2 => by rw [h76 j h1 h2]; exact rd_sgn (by omega) h73⟩
    · skip
      refine j_iload jb dX9_readRow_47 4 rfl ?_
      refine j_norm (lv' := []) (st' := [.int (iI kd)]) (ws' := [(h0, oX9 s0 x0 cnt b), (s0, oX0 h1 len f3 p2), (h1, aI x.g 2400 B), (x0, oX1 xc o sh), (xc, aI x.g 4 cf), (hv, aI x.g 400 v)]) [] [0, 1, 2, 3, 4, 5] rfl rfl (by decide) rfl ?_
      exact j_iret jb jr dX9_readRow_49 ⟨_, _, _, _, _, _, _, _, rfl, rfl, (by rw [← hR0]; exact ⟨isRn_bad hc3 c_44, hf3, hp2, hcf, by omega, fun q => absurd q c_44⟩)⟩
  refine j_icmp_lt (tgt := 39) jb dX9_readRow_32 (by decide) (by omega) (by omega) (fun c_32 => ?_) (fun c_32 => ?_)
  · skip
    refine j_iconst jb dX9_readRow_39 ?_
    refine j_norm (lv' := [(0, .ref h0), (1, .ref hv), (2, .int (iI cnt)), (3, .int (iI rb)), (4, .int (iI kd)), (5, .int (iI w))]) (st' := [.int (iI 0), .ref s0]) (ws' := [(h0, oX9 s0 x0 cnt b), (s0, oX0 h1 len f2 p2), (h1, aI x.g 2400 B), (x0, oX1 xc o sh), (xc, aI x.g 4 cf), (hv, aI x.g 400 v)]) [2, 3, 4, 5, 1, 0] [0, 1, 2, 3, 4, 5] rfl rfl (by decide) rfl ?_
    exact J40 0 (by omega)
  · skip
    refine j_iconst jb dX9_readRow_35 ?_
    refine j_goto (tgt := 40) jb dX9_readRow_36 (by decide) ?_
    refine j_norm (lv' := [(0, .ref h0), (1, .ref hv), (2, .int (iI cnt)), (3, .int (iI rb)), (4, .int (iI kd)), (5, .int (iI w))]) (st' := [.int (iI 1), .ref s0]) (ws' := [(h0, oX9 s0 x0 cnt b), (s0, oX0 h1 len f2 p2), (h1, aI x.g 2400 B), (x0, oX1 xc o sh), (xc, aI x.g 4 cf), (hv, aI x.g 400 v)]) [2, 3, 4, 5, 1, 0] [0, 1, 2, 3, 4, 5] rfl rfl (by decide) rfl ?_
    exact J40 1 (by omega)

set_option maxHeartbeats 4000000 in
set_option maxRecDepth 100000 in
theorem C_X3_readHead (l : Launch) (g : GG) (h0 s0 w0 h1 j0 r0 k0 : Nat) (len fa pos n ch tn sb bh : Int) (B : Int → Int) (hf0 : fa = 0) (hB : isBytes B) (hl : 0 ≤ len ∧ len ≤ 2400) (hfa : 0 ≤ fa ∧ fa ≤ 20) (hp : 0 ≤ pos ∧ pos ≤ 8 * len) : Ctr l g yX3_readHead cX3_readHead 2 none 2 60 0 0 [.ref h0, .ref j0] [(h0, oX3 s0 w0), (s0, oX0 h1 len fa pos), (h1, aI g 2400 B), (j0, oX4 r0 k0 n ch tn sb bh)] (fun vv ww => ∃ (fa2 pos2 n2 ch2 tn2 sb2 : Int), vv = none ∧ ww = [(h0, oX3 s0 w0), (s0, oX0 h1 len fa2 pos2), (h1, aI g 2400 B), (j0, oX4 r0 k0 n2 ch2 tn2 sb2 bh)] ∧ (∀ f, contI (hdR B len pos f) fa2 (f n2 ch2 tn2 sb2 pos2)) ∧ (0 ≤ fa2 ∧ fa2 ≤ 20) ∧ (0 ≤ pos2 ∧ pos2 ≤ 8 * len) ∧ (fa2 = 0 → pos ≤ pos2 ∧ (1 ≤ n2 ∧ n2 ≤ 400) ∧ (ch2 = 1 ∨ ch2 = 2) ∧ (0 ≤ tn2 ∧ tn2 ≤ 3) ∧ (1 ≤ sb2 ∧ sb2 ≤ 16) ∧ (ch2 = 1 → tn2 = 0))) := by
  refine Ctr.of [(0, .ref h0), (1, .ref j0)] (by decide) (Nat.le_of_ble_eq_true rfl) rfl ?_
  intro x hxl hxg jb jr hin
  subst hxl; subst hxg
  refine j_aload_n jb dX3_readHead_0 1 rfl ?_
  refine j_iconst jb dX3_readHead_1 ?_
  refine j_aload_n jb dX3_readHead_2 0 rfl ?_
  refine j_get jb f_X3_9 dX3_readHead_3 0 rfl rfl ?_
  refine j_bipush jb dX3_readHead_6 (by decide) ?_
  refine j_callV (wr := [(h0, oX3 s0 w0), (j0, oX4 r0 k0 n ch tn sb bh)]) jb k_X0_read i_X0_read s_X0_read l_X3_78 (C_X0_read x.l x.g s0 h1 B len fa pos 9 hB (by omega) (by omega) (by decide) (by omega)) 1 2 rfl rfl rfl [1, 2] [0, 3] (by decide) rfl rfl (by decide) (by decide) rfl rfl (Nat.le_of_ble_eq_true rfl) (by decide) dX3_readHead_8 (fun v w hp => ?_)
  obtain ⟨a, f1, p1, rfl, rfl, h8⟩ := hp
  refine j_norm (lv' := [(0, .ref h0), (1, .ref j0)]) (st' := [.int (iI a), .int (iI 1), .ref j0]) (ws' := [(h0, oX3 s0 w0), (s0, oX0 h1 len f1 p1), (h1, aI x.g 2400 B), (j0, oX4 r0 k0 n ch tn sb bh)]) [0, 1] [0, 2, 3, 1] rfl rfl (by decide) rfl ?_
  have ha := rd_in (M := 512) h8 (num_in B pos (9 : Int).toNat)
  have hc1 : ∀ (f : Int → Int → Int → Int → Int → Int × FB), contI (hdR B len pos f) f1 (fltR (400 < 1 + a) 2 (hdA B len f a p1)) := fun f => cI_get (f := fun a p => fltR (400 < 1 + a) 2 (hdA B len f a p)) (cI_0 hf0 rfl) h8
  have hf1 := rd_fa h8
  have hp1 := rd_pos h8 (by decide) hp
  refine j_iadd jb dX3_readHead_11 ?_
  refine j_put (ws' := [(h0, oX3 s0 w0), (s0, oX0 h1 len f1 p1), (h1, aI x.g 2400 B), (j0, oX4 r0 k0 (1 + a) ch tn sb bh)]) jb f_X3_61 w_X4_2 rfl dX3_readHead_12 3 rfl rfl rfl (Nat.le_of_ble_eq_true rfl) rfl ?_
  refine j_aload_n jb dX3_readHead_15 0 rfl ?_
  refine j_get jb f_X3_9 dX3_readHead_16 0 rfl rfl ?_
  refine j_aload_n jb dX3_readHead_19 1 rfl ?_
  refine j_get jb f_X3_61 dX3_readHead_20 3 rfl rfl ?_
  refine j_sipush jb dX3_readHead_23 (by decide) ?_
  have J34 : ∀ (wr : Int), ((wr = 1 ∧ 400 < 1 + a) ∨ (wr = 0 ∧ ¬ 400 < 1 + a)) → JW x 0 0 34 [(0, .ref h0), (1, .ref j0)] [.int (iI wr), .ref s0] [(h0, oX3 s0 w0), (s0, oX0 h1 len f1 p1), (h1, aI x.g 2400 B), (j0, oX4 r0 k0 (1 + a) ch tn sb bh)] := by
    intro wr hj34
    refine j_iconst jb dX3_readHead_34 ?_
    refine j_callV (wr := [(h0, oX3 s0 w0), (h1, aI x.g 2400 B), (j0, oX4 r0 k0 (1 + a) ch tn sb bh)]) jb k_X0_faultIf i_X0_faultIf s_X0_faultIf l_X3_82 (C_X0_faultIf x.l x.g s0 h1 len f1 p1 wr 2 (by have := wrIn hj34; omega) (by omega) (by omega)) 1 2 rfl rfl rfl [1] [0, 2, 3] (by decide) rfl rfl (by decide) (by decide) rfl rfl (Nat.le_of_ble_eq_true rfl) (by decide) dX3_readHead_35 (fun v w hp => ?_)
    obtain ⟨f2, rfl, rfl, h35⟩ := hp
    refine j_norm (lv' := [(0, .ref h0), (1, .ref j0)]) (st' := [.int (iI (b2i (f2 ≠ 0)))]) (ws' := [(h0, oX3 s0 w0), (s0, oX0 h1 len f2 p1), (h1, aI x.g 2400 B), (j0, oX4 r0 k0 (1 + a) ch tn sb bh)]) [0, 1] [0, 3, 1, 2] rfl rfl (by decide) rfl ?_
    have hc2 : ∀ (f : Int → Int → Int → Int → Int → Int × FB), contI (hdR B len pos f) f2 (hdA B len f a p1) := fun f => cI_flt (hc1 f) h35 (by decide) (wr1 hj34)
    have hf2 := flt_in h35 (by omega) (by decide)
    refine j_ifb_eq (tgt := 42) jb dX3_readHead_38 (by decide) (fun c_38 => ?_) (fun c_38 => ?_)
    · skip
      have hf20 : f2 = 0 := by omega
      have ha4 := wr0 hj34 (flt_0 h35 (by decide) hf20).1
      refine j_aload_n jb dX3_readHead_42 1 rfl ?_
      refine j_iconst jb dX3_readHead_43 ?_
      refine j_aload_n jb dX3_readHead_44 0 rfl ?_
      refine j_get jb f_X3_9 dX3_readHead_45 0 rfl rfl ?_
      refine j_iconst jb dX3_readHead_48 ?_
      refine j_callV (wr := [(h0, oX3 s0 w0), (j0, oX4 r0 k0 (1 + a) ch tn sb bh)]) jb k_X0_read i_X0_read s_X0_read l_X3_78 (C_X0_read x.l x.g s0 h1 B len f2 p1 1 hB (by omega) (by omega) (by decide) (by omega)) 1 2 rfl rfl rfl [1, 2] [0, 3] (by decide) rfl rfl (by decide) (by decide) rfl rfl (Nat.le_of_ble_eq_true rfl) (by decide) dX3_readHead_49 (fun v w hp => ?_)
      obtain ⟨c9, f3, p3, rfl, rfl, h49⟩ := hp
      refine j_norm (lv' := [(0, .ref h0), (1, .ref j0)]) (st' := [.int (iI c9), .int (iI 1), .ref j0]) (ws' := [(h0, oX3 s0 w0), (s0, oX0 h1 len f3 p3), (h1, aI x.g 2400 B), (j0, oX4 r0 k0 (1 + a) ch tn sb bh)]) [0, 1] [0, 2, 3, 1] rfl rfl (by decide) rfl ?_
      have hc9 := rd_in (M := 2) h49 (num_in B p1 (1 : Int).toNat)
      have hc3 : ∀ (f : Int → Int → Int → Int → Int → Int × FB), contI (hdR B len pos f) f3 (hdC B len f a c9 p3) := fun f => cI_get (f := fun c p2 => hdC B len f a c p2) (hc2 f) h49
      have hf3 := rd_fa h49
      have hp3 := rd_pos h49 (by decide) hp1
      refine j_iadd jb dX3_readHead_52 ?_
      refine j_put (ws' := [(h0, oX3 s0 w0), (s0, oX0 h1 len f3 p3), (h1, aI x.g 2400 B), (j0, oX4 r0 k0 (1 + a) (1 + c9) tn sb bh)]) jb f_X3_68 w_X4_3 rfl dX3_readHead_53 3 rfl rfl rfl (Nat.le_of_ble_eq_true rfl) rfl ?_
      refine j_aload_n jb dX3_readHead_56 1 rfl ?_
      refine j_aload_n jb dX3_readHead_57 0 rfl ?_
      refine j_get jb f_X3_9 dX3_readHead_58 0 rfl rfl ?_
      refine j_iconst jb dX3_readHead_61 ?_
      refine j_callV (wr := [(h0, oX3 s0 w0), (j0, oX4 r0 k0 (1 + a) (1 + c9) tn sb bh)]) jb k_X0_read i_X0_read s_X0_read l_X3_78 (C_X0_read x.l x.g s0 h1 B len f3 p3 2 hB (by omega) (by omega) (by decide) (by omega)) 1 2 rfl rfl rfl [1, 2] [0, 3] (by decide) rfl rfl (by decide) (by decide) rfl rfl (Nat.le_of_ble_eq_true rfl) (by decide) dX3_readHead_62 (fun v w hp => ?_)
      obtain ⟨t9, f4, p4, rfl, rfl, h62⟩ := hp
      refine j_norm (lv' := [(0, .ref h0), (1, .ref j0)]) (st' := [.int (iI t9), .ref j0]) (ws' := [(h0, oX3 s0 w0), (s0, oX0 h1 len f4 p4), (h1, aI x.g 2400 B), (j0, oX4 r0 k0 (1 + a) (1 + c9) tn sb bh)]) [0, 1] [0, 2, 3, 1] rfl rfl (by decide) rfl ?_
      have ht9 := rd_in (M := 4) h62 (num_in B p3 (2 : Int).toNat)
      have hc4 : ∀ (f : Int → Int → Int → Int → Int → Int × FB), contI (hdR B len pos f) f4 (fltR (1 + c9 = 1 ∧ ¬ t9 = 0) 3 (hdD B len f a c9 t9 p4)) := fun f => cI_get (f := fun t p3 => fltR (1 + c9 = 1 ∧ ¬ t = 0) 3 (hdD B len f a c9 t p3)) (hc3 f) h62
      have hf4 := rd_fa h62
      have hp4 := rd_pos h62 (by decide) hp3
      refine j_put (ws' := [(h0, oX3 s0 w0), (s0, oX0 h1 len f4 p4), (h1, aI x.g 2400 B), (j0, oX4 r0 k0 (1 + a) (1 + c9) t9 sb bh)]) jb f_X3_47 w_X4_4 rfl dX3_readHead_65 3 rfl rfl rfl (Nat.le_of_ble_eq_true rfl) rfl ?_
      refine j_aload_n jb dX3_readHead_68 0 rfl ?_
      refine j_get jb f_X3_9 dX3_readHead_69 0 rfl rfl ?_
      refine j_aload_n jb dX3_readHead_72 1 rfl ?_
      refine j_get jb f_X3_68 dX3_readHead_73 3 rfl rfl ?_
      refine j_iconst jb dX3_readHead_76 ?_
      have J92 : ∀ (wr : Int), ((wr = 1 ∧ (1 + c9 = 1 ∧ ¬ t9 = 0)) ∨ (wr = 0 ∧ ¬ (1 + c9 = 1 ∧ ¬ t9 = 0))) → JW x 0 0 92 [(0, .ref h0), (1, .ref j0)] [.int (iI wr), .ref s0] [(h0, oX3 s0 w0), (s0, oX0 h1 len f4 p4), (h1, aI x.g 2400 B), (j0, oX4 r0 k0 (1 + a) (1 + c9) t9 sb bh)] := by
        intro wr hj92
        refine j_iconst jb dX3_readHead_92 ?_
        refine j_callV (wr := [(h0, oX3 s0 w0), (h1, aI x.g 2400 B), (j0, oX4 r0 k0 (1 + a) (1 + c9) t9 sb bh)]) jb k_X0_faultIf i_X0_faultIf s_X0_faultIf l_X3_82 (C_X0_faultIf x.l x.g s0 h1 len f4 p4 wr 3 (by have := wrIn hj92; omega) (by omega) (by omega)) 1 2 rfl rfl rfl [1] [0, 2, 3] (by decide) rfl rfl (by decide) (by decide) rfl rfl (Nat.le_of_ble_eq_true rfl) (by decide) dX3_readHead_93 (fun v w hp => ?_)
        obtain ⟨f5, rfl, rfl, h93⟩ := hp
        refine j_norm (lv' := [(0, .ref h0), (1, .ref j0)]) (st' := [.int (iI (b2i (f5 ≠ 0)))]) (ws' := [(h0, oX3 s0 w0), (s0, oX0 h1 len f5 p4), (h1, aI x.g 2400 B), (j0, oX4 r0 k0 (1 + a) (1 + c9) t9 sb bh)]) [0, 1] [0, 3, 1, 2] rfl rfl (by decide) rfl ?_
        have hc5 : ∀ (f : Int → Int → Int → Int → Int → Int × FB), contI (hdR B len pos f) f5 (hdD B len f a c9 t9 p4) := fun f => cI_flt (hc4 f) h93 (by decide) (wr1 hj92)
        have hf5 := flt_in h93 (by omega) (by decide)
        refine j_ifb_eq (tgt := 100) jb dX3_readHead_96 (by decide) (fun c_96 => ?_) (fun c_96 => ?_)
        · skip
          have hf50 : f5 = 0 := by omega
          have hct := wr0 hj92 (flt_0 h93 (by decide) hf50).1
          refine j_aload_n jb dX3_readHead_100 1 rfl ?_
          refine j_iconst jb dX3_readHead_101 ?_
          refine j_aload_n jb dX3_readHead_102 0 rfl ?_
          refine j_get jb f_X3_9 dX3_readHead_103 0 rfl rfl ?_
          refine j_iconst jb dX3_readHead_106 ?_
          refine j_callV (wr := [(h0, oX3 s0 w0), (j0, oX4 r0 k0 (1 + a) (1 + c9) t9 sb bh)]) jb k_X0_read i_X0_read s_X0_read l_X3_78 (C_X0_read x.l x.g s0 h1 B len f5 p4 4 hB (by omega) (by omega) (by decide) (by omega)) 1 2 rfl rfl rfl [1, 2] [0, 3] (by decide) rfl rfl (by decide) (by decide) rfl rfl (Nat.le_of_ble_eq_true rfl) (by decide) dX3_readHead_107 (fun v w hp => ?_)
          obtain ⟨s9, f6, p6, rfl, rfl, h107⟩ := hp
          refine j_norm (lv' := [(0, .ref h0), (1, .ref j0)]) (st' := [.int (iI s9), .int (iI 1), .ref j0]) (ws' := [(h0, oX3 s0 w0), (s0, oX0 h1 len f6 p6), (h1, aI x.g 2400 B), (j0, oX4 r0 k0 (1 + a) (1 + c9) t9 sb bh)]) [0, 1] [0, 2, 3, 1] rfl rfl (by decide) rfl ?_
          have hs9 := rd_in (M := 16) h107 (num_in B p4 (4 : Int).toNat)
          have hc6 : ∀ (f : Int → Int → Int → Int → Int → Int × FB), contI (hdR B len pos f) f6 (f (1 + a) (1 + c9) t9 (1 + s9) p6) := fun f => cI_get (f := fun s p4 => f (1 + a) (1 + c9) t9 (1 + s) p4) (hc5 f) h107
          have hf6 := rd_fa h107
          have hp6 := rd_pos h107 (by decide) hp4
          refine j_iadd jb dX3_readHead_110 ?_
          refine j_put (ws' := [(h0, oX3 s0 w0), (s0, oX0 h1 len f6 p6), (h1, aI x.g 2400 B), (j0, oX4 r0 k0 (1 + a) (1 + c9) t9 (1 + s9) bh)]) jb f_X3_50 w_X4_5 rfl dX3_readHead_111 3 rfl rfl rfl (Nat.le_of_ble_eq_true rfl) rfl ?_
          refine j_norm (lv' := []) (st' := []) (ws' := [(h0, oX3 s0 w0), (s0, oX0 h1 len f6 p6), (h1, aI x.g 2400 B), (j0, oX4 r0 k0 (1 + a) (1 + c9) t9 (1 + s9) bh)]) [] [0, 1, 2, 3] rfl rfl (by decide) rfl ?_
          exact j_vret jb jr dX3_readHead_114 ⟨_, _, _, _, _, _, rfl, rfl, ⟨hc6, by omega, hp6, fun _ => ⟨by have e1 := rd_ge h8 (by decide); have e2 := rd_ge h49 (by decide); have e3 := rd_ge h62 (by decide); have e4 := rd_ge h107 (by decide); omega, by omega, by omega, by omega, by omega, by omega⟩⟩⟩
        · skip
          refine j_norm (lv' := []) (st' := []) (ws' := [(h0, oX3 s0 w0), (s0, oX0 h1 len f5 p4), (h1, aI x.g 2400 B), (j0, oX4 r0 k0 (1 + a) (1 + c9) t9 sb bh)]) [] [0, 1, 2, 3] rfl rfl (by decide) rfl ?_
          exact j_vret jb jr dX3_readHead_99 ⟨_, _, _, _, _, _, rfl, rfl, ⟨fun f => ⟨fun q => absurd q c_96, fun _ => (hc5 f).2 c_96⟩, hf5, hp4, fun q => absurd q c_96⟩⟩
      refine j_icmp_ne (tgt := 91) jb dX3_readHead_77 (by decide) (by omega) (by omega) (fun c_77 => ?_) (fun c_77 => ?_)
      · skip
        refine j_iconst jb dX3_readHead_91 ?_
        refine j_norm (lv' := [(0, .ref h0), (1, .ref j0)]) (st' := [.int (iI 0), .ref s0]) (ws' := [(h0, oX3 s0 w0), (s0, oX0 h1 len f4 p4), (h1, aI x.g 2400 B), (j0, oX4 r0 k0 (1 + a) (1 + c9) t9 sb bh)]) [0, 1] [0, 1, 2, 3] rfl rfl (by decide) rfl ?_
        exact J92 0 (by omega)
      · skip
        refine j_aload_n jb dX3_readHead_80 1 rfl ?_
        refine j_get jb f_X3_47 dX3_readHead_81 3 rfl rfl ?_
        refine j_if_eq (tgt := 91) jb dX3_readHead_84 (by decide) (by omega) (fun c_84 => ?_) (fun c_84 => ?_)
        · skip
          refine j_iconst jb dX3_readHead_91 ?_
          refine j_norm (lv' := [(0, .ref h0), (1, .ref j0)]) (st' := [.int (iI 0), .ref s0]) (ws' := [(h0, oX3 s0 w0), (s0, oX0 h1 len f4 p4), (h1, aI x.g 2400 B), (j0, oX4 r0 k0 (1 + a) (1 + c9) t9 sb bh)]) [0, 1] [0, 1, 2, 3] rfl rfl (by decide) rfl ?_
          exact J92 0 (by omega)
        · skip
          refine j_iconst jb dX3_readHead_87 ?_
          refine j_goto (tgt := 92) jb dX3_readHead_88 (by decide) ?_
          refine j_norm (lv' := [(0, .ref h0), (1, .ref j0)]) (st' := [.int (iI 1), .ref s0]) (ws' := [(h0, oX3 s0 w0), (s0, oX0 h1 len f4 p4), (h1, aI x.g 2400 B), (j0, oX4 r0 k0 (1 + a) (1 + c9) t9 sb bh)]) [0, 1] [0, 1, 2, 3] rfl rfl (by decide) rfl ?_
          exact J92 1 (by omega)
    · skip
      refine j_norm (lv' := []) (st' := []) (ws' := [(h0, oX3 s0 w0), (s0, oX0 h1 len f2 p1), (h1, aI x.g 2400 B), (j0, oX4 r0 k0 (1 + a) ch tn sb bh)]) [] [0, 1, 2, 3] rfl rfl (by decide) rfl ?_
      exact j_vret jb jr dX3_readHead_41 ⟨_, _, _, _, _, _, rfl, rfl, ⟨fun f => ⟨fun q => absurd q c_38, fun _ => (hc2 f).2 c_38⟩, hf2, hp1, fun q => absurd q c_38⟩⟩
  refine j_icmp_le (tgt := 33) jb dX3_readHead_26 (by decide) (by omega) (by omega) (fun c_26 => ?_) (fun c_26 => ?_)
  · skip
    refine j_iconst jb dX3_readHead_33 ?_
    refine j_norm (lv' := [(0, .ref h0), (1, .ref j0)]) (st' := [.int (iI 0), .ref s0]) (ws' := [(h0, oX3 s0 w0), (s0, oX0 h1 len f1 p1), (h1, aI x.g 2400 B), (j0, oX4 r0 k0 (1 + a) ch tn sb bh)]) [0, 1] [0, 1, 2, 3] rfl rfl (by decide) rfl ?_
    exact J34 0 (by omega)
  · skip
    refine j_iconst jb dX3_readHead_29 ?_
    refine j_goto (tgt := 34) jb dX3_readHead_30 (by decide) ?_
    refine j_norm (lv' := [(0, .ref h0), (1, .ref j0)]) (st' := [.int (iI 1), .ref s0]) (ws' := [(h0, oX3 s0 w0), (s0, oX0 h1 len f1 p1), (h1, aI x.g 2400 B), (j0, oX4 r0 k0 (1 + a) ch tn sb bh)]) [0, 1] [0, 1, 2, 3] rfl rfl (by decide) rfl ?_
    exact J34 1 (by omega)

set_option maxHeartbeats 4000000 in
set_option maxRecDepth 100000 in
theorem C_X3_readEnd (l : Launch) (g : GG) (h0 s0 w0 h1 j0 r0 k0 q0 q1 : Nat) (len fa pos n ch tn sb bh pl kd0 kd1 : Int) (B f0 f1 u0 u1 : Int → Int) (hf0 : fa = 0) (hn : 1 ≤ n ∧ n ≤ 400) (hch : ch = 1 ∨ ch = 2) (htn : 0 ≤ tn ∧ tn ≤ 3) (hsb : 1 ≤ sb ∧ sb ≤ 16) (hct : ch = 1 → tn = 0) (hpl : 0 ≤ pl ∧ 8 * pl ≤ pos) (he0 : eqOn f0 u0 0 n) (he1 : ch = 2 → eqOn f1 u1 0 n) (hi0 : fitOn f0 (rbF tn sb) n) (hi1 : ch = 2 → fitOn f1 (rbS tn sb) n) (hB : isBytes B) (hl : 0 ≤ len ∧ len ≤ 2400) (hfa : 0 ≤ fa ∧ fa ≤ 20) (hp : 0 ≤ pos ∧ pos ≤ 8 * len) : Ctr l g yX3_readEnd cX3_readEnd 6 none 3 90 0 0 [.ref h0, .int (iI pl), .ref j0] [(h0, oX3 s0 w0), (s0, oX0 h1 len fa pos), (h1, aI g 2400 B), (j0, oX4 r0 k0 n ch tn sb bh), (r0, aG g 2 (rf2 q0 q1)), (q0, aI g 400 f0), (q1, aI g 400 f1)] (fun vv ww => ∃ (fa2 pos2 bh2 : Int) (e0 e1 : Int → Int), vv = none ∧ ww = [(h0, oX3 s0 w0), (s0, oX0 h1 len fa2 pos2), (h1, aI g 2400 B), (j0, oX4 r0 k0 n ch tn sb bh2), (r0, aG g 2 (rf2 q0 q1)), (q0, aI g 400 e0), (q1, aI g 400 e1)] ∧ isF (endR B len pl n ch tn sb kd0 kd1 pos u0 u1) fa2 n ch tn sb kd0 kd1 bh2 e0 e1 ∧ (0 ≤ fa2 ∧ fa2 ≤ 20) ∧ (0 ≤ pos2 ∧ pos2 ≤ 8 * len) ∧ (fa2 = 0 → (pl < bh2 ∧ bh2 ≤ len) ∧ fitOn e0 sb n ∧ (ch = 2 → fitOn e1 sb n))) := by
  refine Ctr.of [(0, .ref h0), (1, .int (iI pl)), (2, .ref j0)] (by decide) (Nat.le_of_ble_eq_true rfl) rfl ?_
  intro x hxl hxg jb jr hin
  subst hxl; subst hxg
  obtain ⟨R0, hR0⟩ : ∃ R : Int × FB, R = (endR B len pl n ch tn sb kd0 kd1 pos u0 u1) := ⟨_, rfl⟩
  have hc0 : contI R0 fa (endR B len pl n ch tn sb kd0 kd1 pos u0 u1) := cI_0 hf0 hR0
  have huk : (tn = 0 ∨ uok tn sb f0 f1 n.toNat = true) ↔ (tn = 0 ∨ uok tn sb u0 u1 n.toNat = true) := by (by_cases q : tn = 0; { exact ⟨fun _ => Or.inl q, fun _ => Or.inl q⟩ }; { rw [uok_cg n.toNat (fun j h1 h2 => he0 j h1 (by omega)) (fun j h1 h2 => he1 (by omega) j h1 (by omega))] })
  have hrb := rb_in tn sb hsb
  have hbd : ¬ tn = 0 → ∀ j, 0 ≤ j → j < n → (-65536 ≤ f0 j ∧ f0 j ≤ 65536) ∧ (-65536 ≤ f1 j ∧ f1 j ≤ 65536) := fun q j h1 h2 => (by have z1 := fit_in hrb.1 (hi0 j h1 h2); have z2 := fit_in hrb.2 (hi1 (by omega) j h1 h2); omega)
  refine j_aload_n jb dX3_readEnd_0 0 rfl ?_
  refine j_get jb f_X3_9 dX3_readEnd_1 0 rfl rfl ?_
  refine j_aload_n jb dX3_readEnd_4 0 rfl ?_
  refine j_get jb f_X3_9 dX3_readEnd_5 0 rfl rfl ?_
  refine j_callV (wr := [(h0, oX3 s0 w0), (h1, aI x.g 2400 B), (j0, oX4 r0 k0 n ch tn sb bh), (r0, aG x.g 2 (rf2 q0 q1)), (q0, aI x.g 400 f0), (q1, aI x.g 400 f1)]) jb k_X0_bitsToByte i_X0_bitsToByte s_X0_bitsToByte l_X3_86 (C_X0_bitsToByte x.l x.g s0 h1 len fa pos ) 1 2 rfl rfl rfl [1] [0, 2, 3, 4, 5, 6] (by decide) rfl rfl (by decide) (by decide) rfl rfl (Nat.le_of_ble_eq_true rfl) (by decide) dX3_readEnd_8 (fun v w hp => ?_)
  obtain ⟨rfl, rfl⟩ := hp
  refine j_norm (lv' := [(0, .ref h0), (1, .int (iI pl)), (2, .ref j0)]) (st' := [.int (iI (-pos % 8)), .ref s0]) (ws' := [(h0, oX3 s0 w0), (s0, oX0 h1 len fa pos), (h1, aI x.g 2400 B), (j0, oX4 r0 k0 n ch tn sb bh), (r0, aG x.g 2 (rf2 q0 q1)), (q0, aI x.g 400 f0), (q1, aI x.g 400 f1)]) [0, 1, 2] [0, 6, 1, 2, 3, 4, 5] rfl rfl (by decide) rfl ?_
  refine j_callV (wr := [(h0, oX3 s0 w0), (j0, oX4 r0 k0 n ch tn sb bh), (r0, aG x.g 2 (rf2 q0 q1)), (q0, aI x.g 400 f0), (q1, aI x.g 400 f1)]) jb k_X0_read i_X0_read s_X0_read l_X3_78 (C_X0_read x.l x.g s0 h1 B len fa pos (-pos % 8) hB (by omega) (by omega) (by omega) (by omega)) 1 2 rfl rfl rfl [1, 2] [0, 3, 4, 5, 6] (by decide) rfl rfl (by decide) (by decide) rfl rfl (Nat.le_of_ble_eq_true rfl) (by decide) dX3_readEnd_11 (fun v w hp => ?_)
  obtain ⟨pad, f1x, p1, rfl, rfl, h11⟩ := hp
  refine j_norm (lv' := [(0, .ref h0), (1, .int (iI pl)), (2, .ref j0)]) (st' := [.int (iI pad)]) (ws' := [(h0, oX3 s0 w0), (s0, oX0 h1 len f1x p1), (h1, aI x.g 2400 B), (j0, oX4 r0 k0 n ch tn sb bh), (r0, aG x.g 2 (rf2 q0 q1)), (q0, aI x.g 400 f0), (q1, aI x.g 400 f1)]) [0, 1, 2] [0, 5, 6, 1, 2, 3, 4] rfl rfl (by decide) rfl ?_
  have hc1 := cI_get (f := fun pad p => fltR (¬ pad = 0) 9 (getR B len 8 p (fun s p2 => fltR (¬ s = crc B pl (p / 8 - pl).toNat) 10 (fltR (¬ (tn = 0 ∨ uok tn sb u0 u1 n.toNat = true)) 11 (0, n, ch, tn, sb, kd0, kd1, p2 / 8, (fun j => utA tn (u0 j) (u1 j)), (fun j => utB tn (u0 j) (u1 j))))))) hc0 h11
  have hf1 := rd_fa h11
  have hp1 := rd_pos h11 (by omega) hp
  have hg1 := rd_ge h11 (by omega)
  have hpn := rd_in (M := 256) h11 (num_in8 B pos (-pos % 8) (by omega))
  refine j_istore_n (lv' := [(3, .int (iI pad)), (0, .ref h0), (1, .int (iI pl)), (2, .ref j0)]) jb dX3_readEnd_14 rfl (by decide) rfl ?_
  refine j_aload_n jb dX3_readEnd_15 1 rfl ?_
  refine j_get jb f_X3_9 dX3_readEnd_16 0 rfl rfl ?_
  refine j_iload_n jb dX3_readEnd_19 0 rfl ?_
  have J28 : ∀ (wr : Int), ((wr = 1 ∧ ¬ pad = 0) ∨ (wr = 0 ∧ ¬ ¬ pad = 0)) → JW x 0 0 28 [(0, .ref h0), (1, .int (iI pl)), (2, .ref j0), (3, .int (iI pad))] [.int (iI wr), .ref s0] [(h0, oX3 s0 w0), (s0, oX0 h1 len f1x p1), (h1, aI x.g 2400 B), (j0, oX4 r0 k0 n ch tn sb bh), (r0, aG x.g 2 (rf2 q0 q1)), (q0, aI x.g 400 f0), (q1, aI x.g 400 f1)] := by
    intro wr hj28
    refine j_bipush jb dX3_readEnd_28 (by decide) ?_
    refine j_callV (wr := [(h0, oX3 s0 w0), (h1, aI x.g 2400 B), (j0, oX4 r0 k0 n ch tn sb bh), (r0, aG x.g 2 (rf2 q0 q1)), (q0, aI x.g 400 f0), (q1, aI x.g 400 f1)]) jb k_X0_faultIf i_X0_faultIf s_X0_faultIf l_X3_82 (C_X0_faultIf x.l x.g s0 h1 len f1x p1 wr 9 (by have := wrIn hj28; omega) (by omega) (by omega)) 1 2 rfl rfl rfl [1] [0, 2, 3, 4, 5, 6] (by decide) rfl rfl (by decide) (by decide) rfl rfl (Nat.le_of_ble_eq_true rfl) (by decide) dX3_readEnd_30 (fun v w hp => ?_)
    obtain ⟨f2, rfl, rfl, h30⟩ := hp
    refine j_norm (lv' := [(0, .ref h0), (1, .int (iI pl)), (2, .ref j0), (3, .int (iI pad))]) (st' := [.int (iI (b2i (f2 ≠ 0)))]) (ws' := [(h0, oX3 s0 w0), (s0, oX0 h1 len f2 p1), (h1, aI x.g 2400 B), (j0, oX4 r0 k0 n ch tn sb bh), (r0, aG x.g 2 (rf2 q0 q1)), (q0, aI x.g 400 f0), (q1, aI x.g 400 f1)]) [0, 1, 2, 3] [0, 6, 1, 2, 3, 4, 5] rfl rfl (by decide) rfl ?_
    have hc2 := cI_flt hc1 h30 (by decide) (wr1 hj28)
    have hf2 := flt_in h30 (by omega) (by decide)
    refine j_ifb_eq (tgt := 37) jb dX3_readEnd_33 (by decide) (fun c_33 => ?_) (fun c_33 => ?_)
    · skip
      have hf20 : f2 = 0 := by omega
      have hf10 := (flt_0 h30 (by decide) hf20).2
      have hal := rd_al h11 hf10
      refine j_aload_n jb dX3_readEnd_37 0 rfl ?_
      refine j_get jb f_X3_9 dX3_readEnd_38 0 rfl rfl ?_
      refine j_iload_n jb dX3_readEnd_41 1 rfl ?_
      refine j_aload_n jb dX3_readEnd_42 0 rfl ?_
      refine j_get jb f_X3_9 dX3_readEnd_43 0 rfl rfl ?_
      refine j_callV (wr := [(h0, oX3 s0 w0), (h1, aI x.g 2400 B), (j0, oX4 r0 k0 n ch tn sb bh), (r0, aG x.g 2 (rf2 q0 q1)), (q0, aI x.g 400 f0), (q1, aI x.g 400 f1)]) jb k_X0_placeNow i_X0_placeNow s_X0_placeNow l_X3_90 (C_X0_placeNow x.l x.g s0 h1 len f2 p1 (by omega)) 1 2 rfl rfl rfl [1] [0, 2, 3, 4, 5, 6] (by decide) rfl rfl (by decide) (by decide) rfl rfl (Nat.le_of_ble_eq_true rfl) (by decide) dX3_readEnd_46 (fun v w hp => ?_)
      obtain ⟨rfl, rfl⟩ := hp
      refine j_norm (lv' := [(0, .ref h0), (1, .int (iI pl)), (2, .ref j0), (3, .int (iI pad))]) (st' := [.int (iI (p1 / 8)), .int (iI pl), .ref s0]) (ws' := [(h0, oX3 s0 w0), (s0, oX0 h1 len f2 p1), (h1, aI x.g 2400 B), (j0, oX4 r0 k0 n ch tn sb bh), (r0, aG x.g 2 (rf2 q0 q1)), (q0, aI x.g 400 f0), (q1, aI x.g 400 f1)]) [0, 1, 2, 3] [0, 6, 1, 2, 3, 4, 5] rfl rfl (by decide) rfl ?_
      refine j_callV (wr := [(h0, oX3 s0 w0), (j0, oX4 r0 k0 n ch tn sb bh), (r0, aG x.g 2 (rf2 q0 q1)), (q0, aI x.g 400 f0), (q1, aI x.g 400 f1)]) jb k_X0_sumOf i_X0_sumOf s_X0_sumOf l_X3_93 (C_X0_sumOf x.l x.g s0 h1 B len f2 p1 pl (p1 / 8) hB (by omega)) 1 2 rfl rfl rfl [1, 2] [0, 3, 4, 5, 6] (by decide) rfl rfl (by decide) (by decide) rfl rfl (Nat.le_of_ble_eq_true rfl) (by decide) dX3_readEnd_49 (fun v w hp => ?_)
      obtain ⟨sm, rfl, rfl, h49⟩ := hp
      refine j_norm (lv' := [(0, .ref h0), (1, .int (iI pl)), (2, .ref j0), (3, .int (iI pad))]) (st' := [.int (iI sm)]) (ws' := [(h0, oX3 s0 w0), (s0, oX0 h1 len f2 p1), (h1, aI x.g 2400 B), (j0, oX4 r0 k0 n ch tn sb bh), (r0, aG x.g 2 (rf2 q0 q1)), (q0, aI x.g 400 f0), (q1, aI x.g 400 f1)]) [0, 1, 2, 3] [0, 5, 6, 1, 2, 3, 4] rfl rfl (by decide) rfl ?_
      refine j_istore (lv' := [(4, .int (iI sm)), (0, .ref h0), (1, .int (iI pl)), (2, .ref j0), (3, .int (iI pad))]) jb dX3_readEnd_52 (by decide) rfl ?_
      refine j_aload_n jb dX3_readEnd_54 1 rfl ?_
      refine j_get jb f_X3_9 dX3_readEnd_55 0 rfl rfl ?_
      refine j_bipush jb dX3_readEnd_58 (by decide) ?_
      refine j_callV (wr := [(h0, oX3 s0 w0), (j0, oX4 r0 k0 n ch tn sb bh), (r0, aG x.g 2 (rf2 q0 q1)), (q0, aI x.g 400 f0), (q1, aI x.g 400 f1)]) jb k_X0_read i_X0_read s_X0_read l_X3_78 (C_X0_read x.l x.g s0 h1 B len f2 p1 8 hB (by omega) (by omega) (by decide) (by omega)) 1 2 rfl rfl rfl [1, 2] [0, 3, 4, 5, 6] (by decide) rfl rfl (by decide) (by decide) rfl rfl (Nat.le_of_ble_eq_true rfl) (by decide) dX3_readEnd_60 (fun v w hp => ?_)
      obtain ⟨s9, f3, p3, rfl, rfl, h60⟩ := hp
      refine j_norm (lv' := [(4, .int (iI sm)), (0, .ref h0), (1, .int (iI pl)), (2, .ref j0), (3, .int (iI pad))]) (st' := [.int (iI s9)]) (ws' := [(h0, oX3 s0 w0), (s0, oX0 h1 len f3 p3), (h1, aI x.g 2400 B), (j0, oX4 r0 k0 n ch tn sb bh), (r0, aG x.g 2 (rf2 q0 q1)), (q0, aI x.g 400 f0), (q1, aI x.g 400 f1)]) [0, 1, 2, 3, 4] [0, 5, 6, 1, 2, 3, 4] rfl rfl (by decide) rfl ?_
      have hs9 := rd_in (M := 256) h60 (num_in B p1 (8 : Int).toNat)
      have hc3 := cI_get (f := fun s p2 => fltR (¬ s = crc B pl (p1 / 8 - pl).toNat) 10 (fltR (¬ (tn = 0 ∨ uok tn sb u0 u1 n.toNat = true)) 11 (0, n, ch, tn, sb, kd0, kd1, p2 / 8, (fun j => utA tn (u0 j) (u1 j)), (fun j => utB tn (u0 j) (u1 j))))) hc2 h60
      have hf3 := rd_fa h60
      have hp3 := rd_pos h60 (by decide) hp1
      refine j_istore (lv' := [(5, .int (iI s9)), (4, .int (iI sm)), (0, .ref h0), (1, .int (iI pl)), (2, .ref j0), (3, .int (iI pad))]) jb dX3_readEnd_63 (by decide) rfl ?_
      refine j_aload_n jb dX3_readEnd_65 2 rfl ?_
      refine j_get jb f_X3_9 dX3_readEnd_66 0 rfl rfl ?_
      refine j_iload jb dX3_readEnd_69 0 rfl ?_
      refine j_iload jb dX3_readEnd_71 1 rfl ?_
      have J81 : ∀ (wr : Int), ((wr = 1 ∧ ¬ s9 = crc B pl (p1 / 8 - pl).toNat) ∨ (wr = 0 ∧ ¬ ¬ s9 = crc B pl (p1 / 8 - pl).toNat)) → JW x 0 0 81 [(0, .ref h0), (1, .int (iI pl)), (2, .ref j0), (3, .int (iI pad)), (4, .int (iI sm)), (5, .int (iI s9))] [.int (iI wr), .ref s0] [(h0, oX3 s0 w0), (s0, oX0 h1 len f3 p3), (h1, aI x.g 2400 B), (j0, oX4 r0 k0 n ch tn sb bh), (r0, aG x.g 2 (rf2 q0 q1)), (q0, aI x.g 400 f0), (q1, aI x.g 400 f1)] := by
        intro wr hj81
        refine j_bipush jb dX3_readEnd_81 (by decide) ?_
        refine j_callV (wr := [(h0, oX3 s0 w0), (h1, aI x.g 2400 B), (j0, oX4 r0 k0 n ch tn sb bh), (r0, aG x.g 2 (rf2 q0 q1)), (q0, aI x.g 400 f0), (q1, aI x.g 400 f1)]) jb k_X0_faultIf i_X0_faultIf s_X0_faultIf l_X3_82 (C_X0_faultIf x.l x.g s0 h1 len f3 p3 wr 10 (by have := wrIn hj81; omega) (by omega) (by omega)) 1 2 rfl rfl rfl [1] [0, 2, 3, 4, 5, 6] (by decide) rfl rfl (by decide) (by decide) rfl rfl (Nat.le_of_ble_eq_true rfl) (by decide) dX3_readEnd_83 (fun v w hp => ?_)
        obtain ⟨f4, rfl, rfl, h83⟩ := hp
        refine j_norm (lv' := [(0, .ref h0), (1, .int (iI pl)), (2, .ref j0), (3, .int (iI pad)), (4, .int (iI sm)), (5, .int (iI s9))]) (st' := [.int (iI (b2i (f4 ≠ 0)))]) (ws' := [(h0, oX3 s0 w0), (s0, oX0 h1 len f4 p3), (h1, aI x.g 2400 B), (j0, oX4 r0 k0 n ch tn sb bh), (r0, aG x.g 2 (rf2 q0 q1)), (q0, aI x.g 400 f0), (q1, aI x.g 400 f1)]) [0, 1, 2, 3, 4, 5] [0, 6, 1, 2, 3, 4, 5] rfl rfl (by decide) rfl ?_
        have hc4 := cI_flt hc3 h83 (by decide) (wr1 hj81)
        have hf4 := flt_in h83 (by omega) (by decide)
        refine j_ifb_eq (tgt := 90) jb dX3_readEnd_86 (by decide) (fun c_86 => ?_) (fun c_86 => ?_)
        · skip
          have hf40 : f4 = 0 := by omega
          have hf30 := (flt_0 h83 (by decide) hf40).2
          have hg3 := rd_to h60 hf30
          refine j_aload_n jb dX3_readEnd_90 2 rfl ?_
          refine j_aload_n jb dX3_readEnd_91 0 rfl ?_
          refine j_get jb f_X3_9 dX3_readEnd_92 0 rfl rfl ?_
          refine j_callV (wr := [(h0, oX3 s0 w0), (h1, aI x.g 2400 B), (j0, oX4 r0 k0 n ch tn sb bh), (r0, aG x.g 2 (rf2 q0 q1)), (q0, aI x.g 400 f0), (q1, aI x.g 400 f1)]) jb k_X0_placeNow i_X0_placeNow s_X0_placeNow l_X3_90 (C_X0_placeNow x.l x.g s0 h1 len f4 p3 (by omega)) 1 2 rfl rfl rfl [1] [0, 2, 3, 4, 5, 6] (by decide) rfl rfl (by decide) (by decide) rfl rfl (Nat.le_of_ble_eq_true rfl) (by decide) dX3_readEnd_95 (fun v w hp => ?_)
          obtain ⟨rfl, rfl⟩ := hp
          refine j_norm (lv' := [(0, .ref h0), (1, .int (iI pl)), (2, .ref j0), (3, .int (iI pad)), (4, .int (iI sm)), (5, .int (iI s9))]) (st' := [.int (iI (p3 / 8)), .ref j0]) (ws' := [(h0, oX3 s0 w0), (s0, oX0 h1 len f4 p3), (h1, aI x.g 2400 B), (j0, oX4 r0 k0 n ch tn sb bh), (r0, aG x.g 2 (rf2 q0 q1)), (q0, aI x.g 400 f0), (q1, aI x.g 400 f1)]) [0, 1, 2, 3, 4, 5] [0, 6, 1, 2, 3, 4, 5] rfl rfl (by decide) rfl ?_
          refine j_put (ws' := [(h0, oX3 s0 w0), (s0, oX0 h1 len f4 p3), (h1, aI x.g 2400 B), (j0, oX4 r0 k0 n ch tn sb (p3 / 8)), (r0, aG x.g 2 (rf2 q0 q1)), (q0, aI x.g 400 f0), (q1, aI x.g 400 f1)]) jb f_X3_96 w_X4_6 rfl dX3_readEnd_98 3 rfl rfl rfl (Nat.le_of_ble_eq_true rfl) rfl ?_
          refine j_aload_n jb dX3_readEnd_101 0 rfl ?_
          refine j_get jb f_X3_9 dX3_readEnd_102 0 rfl rfl ?_
          refine j_aload_n jb dX3_readEnd_105 2 rfl ?_
          refine j_callV (wr := [(h0, oX3 s0 w0), (s0, oX0 h1 len f4 p3), (h1, aI x.g 2400 B)]) jb k_X4_unturn i_X4_unturn s_X4_unturn l_X3_99 (C_X4_unturn x.l x.g j0 r0 k0 q0 q1 n ch tn sb (p3 / 8) f0 f1 (by omega) (by omega) (by omega) hbd) 3 6 rfl rfl rfl [3, 4, 5, 6] [0, 1, 2] (by decide) rfl rfl (by decide) (by decide) rfl rfl (Nat.le_of_ble_eq_true rfl) (by decide) dX3_readEnd_106 (fun v w hp => ?_)
          obtain ⟨e0, e1, rfl, rfl, h106⟩ := hp
          refine j_norm (lv' := [(0, .ref h0), (1, .int (iI pl)), (2, .ref j0), (3, .int (iI pad)), (4, .int (iI sm)), (5, .int (iI s9))]) (st' := [.int (iI (b2i (tn = 0 ∨ uok tn sb f0 f1 n.toNat = true))), .ref s0]) (ws' := [(h0, oX3 s0 w0), (s0, oX0 h1 len f4 p3), (h1, aI x.g 2400 B), (j0, oX4 r0 k0 n ch tn sb (p3 / 8)), (r0, aG x.g 2 (rf2 q0 q1)), (q0, aI x.g 400 e0), (q1, aI x.g 400 e1)]) [0, 1, 2, 3, 4, 5] [0, 1, 2, 3, 4, 5, 6] rfl rfl (by decide) rfl ?_
          have J117 : ∀ (wr : Int), ((wr = 1 ∧ ¬ (tn = 0 ∨ uok tn sb u0 u1 n.toNat = true)) ∨ (wr = 0 ∧ ¬ ¬ (tn = 0 ∨ uok tn sb u0 u1 n.toNat = true))) → JW x 0 0 117 [(0, .ref h0), (1, .int (iI pl)), (2, .ref j0), (3, .int (iI pad)), (4, .int (iI sm)), (5, .int (iI s9))] [.int (iI wr), .ref s0] [(h0, oX3 s0 w0), (s0, oX0 h1 len f4 p3), (h1, aI x.g 2400 B), (j0, oX4 r0 k0 n ch tn sb (p3 / 8)), (r0, aG x.g 2 (rf2 q0 q1)), (q0, aI x.g 400 e0), (q1, aI x.g 400 e1)] := by
            intro wr hj117
            refine j_bipush jb dX3_readEnd_117 (by decide) ?_
            refine j_callV (wr := [(h0, oX3 s0 w0), (h1, aI x.g 2400 B), (j0, oX4 r0 k0 n ch tn sb (p3 / 8)), (r0, aG x.g 2 (rf2 q0 q1)), (q0, aI x.g 400 e0), (q1, aI x.g 400 e1)]) jb k_X0_faultIf i_X0_faultIf s_X0_faultIf l_X3_82 (C_X0_faultIf x.l x.g s0 h1 len f4 p3 wr 11 (by have := wrIn hj117; omega) (by omega) (by omega)) 1 2 rfl rfl rfl [1] [0, 2, 3, 4, 5, 6] (by decide) rfl rfl (by decide) (by decide) rfl rfl (Nat.le_of_ble_eq_true rfl) (by decide) dX3_readEnd_119 (fun v w hp => ?_)
            obtain ⟨f5, rfl, rfl, h119⟩ := hp
            refine j_norm (lv' := [(0, .ref h0), (1, .int (iI pl)), (2, .ref j0), (3, .int (iI pad)), (4, .int (iI sm)), (5, .int (iI s9))]) (st' := [.int (iI (b2i (f5 ≠ 0)))]) (ws' := [(h0, oX3 s0 w0), (s0, oX0 h1 len f5 p3), (h1, aI x.g 2400 B), (j0, oX4 r0 k0 n ch tn sb (p3 / 8)), (r0, aG x.g 2 (rf2 q0 q1)), (q0, aI x.g 400 e0), (q1, aI x.g 400 e1)]) [0, 1, 2, 3, 4, 5] [0, 6, 1, 2, 3, 4, 5] rfl rfl (by decide) rfl ?_
            have hc5 := cI_flt hc4 h119 (by decide) (wr1 hj117)
            have hf5 := flt_in h119 (by omega) (by decide)
            refine j_pop jb dX3_readEnd_122 rfl ?_
            refine j_norm (lv' := []) (st' := []) (ws' := [(h0, oX3 s0 w0), (s0, oX0 h1 len f5 p3), (h1, aI x.g 2400 B), (j0, oX4 r0 k0 n ch tn sb (p3 / 8)), (r0, aG x.g 2 (rf2 q0 q1)), (q0, aI x.g 400 e0), (q1, aI x.g 400 e1)]) [] [0, 1, 2, 3, 4, 5, 6] rfl rfl (by decide) rfl ?_
            exact j_vret jb jr dX3_readEnd_123 ⟨_, _, _, _, _, rfl, rfl, (by rw [← hR0]; have key : f5 = 0 → (tn = 0 ∨ uok tn sb f0 f1 n.toNat = true) := (fun q => huk.2 (Decidable.of_not_not (wr0 hj117 (flt_0 h119 (by decide) q).1))); refine ⟨isF_end hc5 (fun q => ?_), hf5, hp3, fun q => ⟨by omega, fit_end hct hch he0 he1 hi0 hi1 (key q) (h106 (key q))⟩⟩; exact ut_end hct hch he0 he1 (h106 (key q)))⟩
          refine j_ifb_ne (tgt := 116) jb dX3_readEnd_109 (by decide) (fun c_109 => ?_) (fun c_109 => ?_)
          · skip
            refine j_iconst jb dX3_readEnd_116 ?_
            refine j_norm (lv' := [(0, .ref h0), (1, .int (iI pl)), (2, .ref j0), (3, .int (iI pad)), (4, .int (iI sm)), (5, .int (iI s9))]) (st' := [.int (iI 0), .ref s0]) (ws' := [(h0, oX3 s0 w0), (s0, oX0 h1 len f4 p3), (h1, aI x.g 2400 B), (j0, oX4 r0 k0 n ch tn sb (p3 / 8)), (r0, aG x.g 2 (rf2 q0 q1)), (q0, aI x.g 400 e0), (q1, aI x.g 400 e1)]) [0, 1, 2, 3, 4, 5] [0, 1, 2, 3, 4, 5, 6] rfl rfl (by decide) rfl ?_
            exact J117 0 (Or.inr ⟨rfl, fun q => q (huk.1 c_109)⟩)
          · skip
            refine j_iconst jb dX3_readEnd_112 ?_
            refine j_goto (tgt := 117) jb dX3_readEnd_113 (by decide) ?_
            refine j_norm (lv' := [(0, .ref h0), (1, .int (iI pl)), (2, .ref j0), (3, .int (iI pad)), (4, .int (iI sm)), (5, .int (iI s9))]) (st' := [.int (iI 1), .ref s0]) (ws' := [(h0, oX3 s0 w0), (s0, oX0 h1 len f4 p3), (h1, aI x.g 2400 B), (j0, oX4 r0 k0 n ch tn sb (p3 / 8)), (r0, aG x.g 2 (rf2 q0 q1)), (q0, aI x.g 400 e0), (q1, aI x.g 400 e1)]) [0, 1, 2, 3, 4, 5] [0, 1, 2, 3, 4, 5, 6] rfl rfl (by decide) rfl ?_
            exact J117 1 (Or.inl ⟨rfl, fun q => c_109 (huk.2 q)⟩)
        · skip
          refine j_norm (lv' := []) (st' := []) (ws' := [(h0, oX3 s0 w0), (s0, oX0 h1 len f4 p3), (h1, aI x.g 2400 B), (j0, oX4 r0 k0 n ch tn sb bh), (r0, aG x.g 2 (rf2 q0 q1)), (q0, aI x.g 400 f0), (q1, aI x.g 400 f1)]) [] [0, 1, 2, 3, 4, 5, 6] rfl rfl (by decide) rfl ?_
          exact j_vret jb jr dX3_readEnd_89 ⟨_, _, _, _, _, rfl, rfl, (by rw [← hR0]; exact ⟨isF_bad hc4 c_86, hf4, hp3, fun q => absurd q c_86⟩)⟩
      refine j_icmp_eq (tgt := 80) jb dX3_readEnd_73 (by decide) (by omega) (by omega) (fun c_73 => ?_) (fun c_73 => ?_)
      · skip
        refine j_iconst jb dX3_readEnd_80 ?_
        refine j_norm (lv' := [(0, .ref h0), (1, .int (iI pl)), (2, .ref j0), (3, .int (iI pad)), (4, .int (iI sm)), (5, .int (iI s9))]) (st' := [.int (iI 0), .ref s0]) (ws' := [(h0, oX3 s0 w0), (s0, oX0 h1 len f3 p3), (h1, aI x.g 2400 B), (j0, oX4 r0 k0 n ch tn sb bh), (r0, aG x.g 2 (rf2 q0 q1)), (q0, aI x.g 400 f0), (q1, aI x.g 400 f1)]) [2, 3, 4, 5, 1, 0] [0, 1, 2, 3, 4, 5, 6] rfl rfl (by decide) rfl ?_
        exact J81 0 (Or.inr ⟨rfl, fun q => q (by rw [← h49.1]; exact c_73)⟩)
      · skip
        refine j_iconst jb dX3_readEnd_76 ?_
        refine j_goto (tgt := 81) jb dX3_readEnd_77 (by decide) ?_
        refine j_norm (lv' := [(0, .ref h0), (1, .int (iI pl)), (2, .ref j0), (3, .int (iI pad)), (4, .int (iI sm)), (5, .int (iI s9))]) (st' := [.int (iI 1), .ref s0]) (ws' := [(h0, oX3 s0 w0), (s0, oX0 h1 len f3 p3), (h1, aI x.g 2400 B), (j0, oX4 r0 k0 n ch tn sb bh), (r0, aG x.g 2 (rf2 q0 q1)), (q0, aI x.g 400 f0), (q1, aI x.g 400 f1)]) [2, 3, 4, 5, 1, 0] [0, 1, 2, 3, 4, 5, 6] rfl rfl (by decide) rfl ?_
        exact J81 1 (Or.inl ⟨rfl, by rw [← h49.1]; exact c_73⟩)
    · skip
      refine j_norm (lv' := []) (st' := []) (ws' := [(h0, oX3 s0 w0), (s0, oX0 h1 len f2 p1), (h1, aI x.g 2400 B), (j0, oX4 r0 k0 n ch tn sb bh), (r0, aG x.g 2 (rf2 q0 q1)), (q0, aI x.g 400 f0), (q1, aI x.g 400 f1)]) [] [0, 1, 2, 3, 4, 5, 6] rfl rfl (by decide) rfl ?_
      exact j_vret jb jr dX3_readEnd_36 ⟨_, _, _, _, _, rfl, rfl, (by rw [← hR0]; exact ⟨isF_bad hc2 c_33, hf2, hp1, fun q => absurd q c_33⟩)⟩
  refine j_if_eq (tgt := 27) jb dX3_readEnd_20 (by decide) (by omega) (fun c_20 => ?_) (fun c_20 => ?_)
  · skip
    refine j_iconst jb dX3_readEnd_27 ?_
    refine j_norm (lv' := [(0, .ref h0), (1, .int (iI pl)), (2, .ref j0), (3, .int (iI pad))]) (st' := [.int (iI 0), .ref s0]) (ws' := [(h0, oX3 s0 w0), (s0, oX0 h1 len f1x p1), (h1, aI x.g 2400 B), (j0, oX4 r0 k0 n ch tn sb bh), (r0, aG x.g 2 (rf2 q0 q1)), (q0, aI x.g 400 f0), (q1, aI x.g 400 f1)]) [1, 2, 3, 0] [0, 1, 2, 3, 4, 5, 6] rfl rfl (by decide) rfl ?_
    exact J28 0 (by omega)
  · skip
    refine j_iconst jb dX3_readEnd_23 ?_
    refine j_goto (tgt := 28) jb dX3_readEnd_24 (by decide) ?_
    refine j_norm (lv' := [(0, .ref h0), (1, .int (iI pl)), (2, .ref j0), (3, .int (iI pad))]) (st' := [.int (iI 1), .ref s0]) (ws' := [(h0, oX3 s0 w0), (s0, oX0 h1 len f1x p1), (h1, aI x.g 2400 B), (j0, oX4 r0 k0 n ch tn sb bh), (r0, aG x.g 2 (rf2 q0 q1)), (q0, aI x.g 400 f0), (q1, aI x.g 400 f1)]) [1, 2, 3, 0] [0, 1, 2, 3, 4, 5, 6] rfl rfl (by decide) rfl ?_
    exact J28 1 (by omega)

