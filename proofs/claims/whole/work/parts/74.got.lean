set_option maxHeartbeats 4000000 in
set_option maxRecDepth 100000 in
theorem C_X11_got (l : Launch) (hl0 : l.stackTraces = false) (g : GG) (sa9 : Nat) (m0 sa ct ow s0 pk pd rd op sp : Nat) (or ok oa ob : Nat) (sb ch i on och otn osb obh : Int) (e0 e1 : Int → Int) (hc : inR ch) (hi : inR i) (hn : 0 ≤ on ∧ on ≤ 400) (hch : 0 ≤ och ∧ och ≤ 2) : CtrX l g sa9 yX11_got cX11_got 3 (some .int) 7 95 1 6 [.ref m0, .int (iI ch), .int (iI i)] [(m0, oX11 sa ct sb ow s0 pk pd rd op sp), (op, oX4 or ok on och otn osb obh), (or, aG g 2 (rf2 oa ob)), (oa, aI g 400 e0), (ob, aI g 400 e1)] (¬ ((0 ≤ ch ∧ ch < och) ∧ (0 ≤ i ∧ i < on))) (fun vv ww => ∃ (r : Int), vv = some (.int (iI r)) ∧ ww = [(m0, oX11 sa ct sb ow s0 pk pd rd op sp), (op, oX4 or ok on och otn osb obh), (or, aG g 2 (rf2 oa ob)), (oa, aI g 400 e0), (ob, aI g 400 e1)] ∧ (((0 ≤ ch ∧ ch < och) ∧ (0 ≤ i ∧ i < on)) ∧ (ch = 0 → r = e0 i) ∧ (ch = 1 → r = e1 i))) := by
  refine CtrX.of [(0, .ref m0), (1, .int (iI ch)), (2, .int (iI i))] (by decide) (Nat.le_of_ble_eq_true rfl) rfl ?_
  intro x hxl hxg jb jr hX hnoX hDw
  subst hxl; subst hxg
  refine j_iload_n jb dX11_got_0 1 rfl ?_
  refine j_if_lt (tgt := 30) jb dX11_got_1 (by decide) (by omega) (fun c_1 => ?_) (fun c_1 => ?_)
  · skip
    exact j_throwX jb hl0 jr hX hnoX hDw xw_tb c_X11_185 z_exn (by omega) dX11_got_30 dX11_got_33 dX11_got_34 dX11_got_36 dX11_got_39 ⟨by decide, by decide, by decide, by decide⟩
  · skip
    refine j_iload_n jb dX11_got_4 1 rfl ?_
    refine j_aload_n jb dX11_got_5 0 rfl ?_
    refine j_get jb f_X11_64 dX11_got_6 0 rfl rfl ?_
    refine j_get jb f_X11_176 dX11_got_9 1 rfl rfl ?_
    refine j_icmp_ge (tgt := 30) jb dX11_got_12 (by decide) (by omega) (by omega) (fun c_12 => ?_) (fun c_12 => ?_)
    · skip
      exact j_throwX jb hl0 jr hX hnoX hDw xw_tb c_X11_185 z_exn (by omega) dX11_got_30 dX11_got_33 dX11_got_34 dX11_got_36 dX11_got_39 ⟨by decide, by decide, by decide, by decide⟩
    · skip
      refine j_iload_n jb dX11_got_15 2 rfl ?_
      refine j_if_lt (tgt := 30) jb dX11_got_16 (by decide) (by omega) (fun c_16 => ?_) (fun c_16 => ?_)
      · skip
        exact j_throwX jb hl0 jr hX hnoX hDw xw_tb c_X11_185 z_exn (by omega) dX11_got_30 dX11_got_33 dX11_got_34 dX11_got_36 dX11_got_39 ⟨by decide, by decide, by decide, by decide⟩
      · skip
        refine j_iload_n jb dX11_got_19 2 rfl ?_
        refine j_aload_n jb dX11_got_20 0 rfl ?_
        refine j_get jb f_X11_64 dX11_got_21 0 rfl rfl ?_
        refine j_get jb f_X11_175 dX11_got_24 1 rfl rfl ?_
        refine j_icmp_lt (tgt := 40) jb dX11_got_27 (by decide) (by omega) (by omega) (fun c_27 => ?_) (fun c_27 => ?_)
        · skip
          rcases (show ch = 0 ∨ ch = 1 by omega) with e | e
          · skip
            subst e
            refine j_aload_n jb dX11_got_40 0 rfl ?_
            refine j_get jb f_X11_64 dX11_got_41 0 rfl rfl ?_
            refine j_get jb f_X11_192 dX11_got_44 1 rfl rfl ?_
            refine j_iload_n jb dX11_got_47 1 rfl ?_
            refine j_aaldG (b := oa) jb dX11_got_48 2 rfl (by decide) (by decide) rfl ?_
            refine j_iload_n jb dX11_got_49 2 rfl ?_
            refine j_iald jb dX11_got_50 3 rfl (by omega) (by decide) ?_
            refine j_norm (lv' := []) (st' := [.int (iI (e0 i))]) (ws' := [(m0, oX11 sa ct sb ow s0 pk pd rd op sp), (op, oX4 or ok on och otn osb obh), (or, aG x.g 2 (rf2 oa ob)), (oa, aI x.g 400 e0), (ob, aI x.g 400 e1)]) [] [0, 1, 2, 3, 4] rfl rfl (by decide) rfl ?_
            refine j_widen (ck' := 1) (sk' := 6) (by decide) (by decide) ?_
            exact j_iretX jb jr dX11_got_51 ⟨_, rfl, rfl, ⟨by omega, (by first | exact fun _ => rfl | exact fun q => absurd q (by decide)), (by first | exact fun _ => rfl | exact fun q => absurd q (by decide))⟩⟩
          · skip
            subst e
            refine j_aload_n jb dX11_got_40 0 rfl ?_
            refine j_get jb f_X11_64 dX11_got_41 0 rfl rfl ?_
            refine j_get jb f_X11_192 dX11_got_44 1 rfl rfl ?_
            refine j_iload_n jb dX11_got_47 1 rfl ?_
            refine j_aaldG (b := ob) jb dX11_got_48 2 rfl (by decide) (by decide) rfl ?_
            refine j_iload_n jb dX11_got_49 2 rfl ?_
            refine j_iald jb dX11_got_50 4 rfl (by omega) (by decide) ?_
            refine j_norm (lv' := []) (st' := [.int (iI (e1 i))]) (ws' := [(m0, oX11 sa ct sb ow s0 pk pd rd op sp), (op, oX4 or ok on och otn osb obh), (or, aG x.g 2 (rf2 oa ob)), (oa, aI x.g 400 e0), (ob, aI x.g 400 e1)]) [] [0, 1, 2, 3, 4] rfl rfl (by decide) rfl ?_
            refine j_widen (ck' := 1) (sk' := 6) (by decide) (by decide) ?_
            exact j_iretX jb jr dX11_got_51 ⟨_, rfl, rfl, ⟨by omega, (by first | exact fun _ => rfl | exact fun q => absurd q (by decide)), (by first | exact fun _ => rfl | exact fun q => absurd q (by decide))⟩⟩
        · skip
          exact j_throwX jb hl0 jr hX hnoX hDw xw_tb c_X11_185 z_exn (by omega) dX11_got_30 dX11_got_33 dX11_got_34 dX11_got_36 dX11_got_39 ⟨by decide, by decide, by decide, by decide⟩
set_option maxHeartbeats 4000000 in
set_option maxRecDepth 100000 in
theorem C_L_got (l : Launch) (hl0 : l.stackTraces = false) (g : GG) (sa9 : Nat) (m0 sa ct ow s0 pk pd rd op sp : Nat) (or ok oa ob ot : Nat) (sb ch i on och otn osb obh : Int) (e0 e1 fo : Int → Int) (hc : inR ch) (hi : inR i) (hn : 0 ≤ on ∧ on ≤ 400) (hch : 0 ≤ och ∧ och ≤ 2) (he : ∀ j, 0 ≤ j → j < on → inR (e0 j) ∧ (och = 2 → inR (e1 j))) : CtrH l g sa9 yL_got cL_got 5 (some .int) [(0, 10, 13, 13)] 8 130 1 6 [.ref m0, .int (iI ch), .int (iI i), .ref ot] [(m0, oX11 sa ct sb ow s0 pk pd rd op sp), (op, oX4 or ok on och otn osb obh), (or, aG g 2 (rf2 oa ob)), (oa, aI g 400 e0), (ob, aI g 400 e1), (ot, aL g 1 fo)] (fun vv ww => ∃ (r : Int) (fo2 : Int → Int), vv = some (.int (iI r)) ∧ ww = [(m0, oX11 sa ct sb ow s0 pk pd rd op sp), (op, oX4 or ok on och otn osb obh), (or, aG g 2 (rf2 oa ob)), (oa, aI g 400 e0), (ob, aI g 400 e1), (ot, aL g 1 fo2)] ∧ ((((0 ≤ ch ∧ ch < och) ∧ (0 ≤ i ∧ i < on)) ∧ r = 0 ∧ (ch = 0 → fo2 0 = e0 i) ∧ (ch = 1 → fo2 0 = e1 i)) ∨ (¬ ((0 ≤ ch ∧ ch < och) ∧ (0 ≤ i ∧ i < on)) ∧ r = 1 ∧ fo2 = fo))) := by
  refine CtrH.of [(0, .ref m0), (1, .int (iI ch)), (2, .int (iI i)), (3, .ref ot)] (by decide) (Nat.le_of_ble_eq_true rfl) rfl ?_
  intro x hxl hxg jb jr hX htab
  subst hxl; subst hxg
  refine j_aload_n jb dL_got_0 3 rfl ?_
  refine j_iconst jb dL_got_1 ?_
  refine j_aload_n jb dL_got_2 0 rfl ?_
  refine j_iload_n jb dL_got_3 1 rfl ?_
  refine j_iload_n jb dL_got_4 2 rfl ?_
  refine j_callVX (wr := [(ot, aL x.g 1 fo)]) jb hX k_X11_got i_X11_got s_X11_got l_L_7 (C_X11_got x.l hl0 x.g sa9 m0 sa ct ow s0 pk pd rd op sp or ok oa ob sb ch i on och otn osb obh e0 e1 hc hi hn hch) 0 13 rfl rfl rfl [0, 1, 2, 3, 4] [5] (by decide) rfl rfl (by decide) (by decide) rfl rfl (Nat.le_of_ble_eq_true rfl) (by decide) dL_got_5 (tb := ⟨0, 10, 13, 13⟩) htab (by decide) rfl (by decide) rfl c_L_13 xw_c (fun hno q9 => ?_) (fun v w hp => ?_)
  · skip
    refine j_norm (lv' := [(0, .ref m0), (1, .int (iI ch)), (2, .int (iI i)), (3, .ref ot)]) (st' := [.ref q9]) (ws' := [(m0, oX11 sa ct sb ow s0 pk pd rd op sp), (op, oX4 or ok on och otn osb obh), (or, aG x.g 2 (rf2 oa ob)), (oa, aI x.g 400 e0), (ob, aI x.g 400 e1), (ot, aL x.g 1 fo)]) [0, 1, 2, 3] [1, 2, 3, 4, 5, 0] rfl rfl (by decide) rfl ?_
    refine j_astore (lv' := [(4, .ref q9), (0, .ref m0), (1, .int (iI ch)), (2, .int (iI i)), (3, .ref ot)]) jb dL_got_13 (by decide) rfl ?_
    refine j_iconst jb dL_got_15 ?_
    exact j_iret jb jr dL_got_16 ⟨1, fo, rfl, rfl, Or.inr ⟨hno, rfl, rfl⟩⟩
  · skip
    obtain ⟨r, rfl, rfl, h5⟩ := hp
    refine j_norm (lv' := [(0, .ref m0), (1, .int (iI ch)), (2, .int (iI i)), (3, .ref ot)]) (st' := [.int (iI r), .int (iI 0), .ref ot]) (ws' := [(m0, oX11 sa ct sb ow s0 pk pd rd op sp), (op, oX4 or ok on och otn osb obh), (or, aG x.g 2 (rf2 oa ob)), (oa, aI x.g 400 e0), (ob, aI x.g 400 e1), (ot, aL x.g 1 fo)]) [0, 1, 2, 3] [1, 2, 3, 4, 5, 0] rfl rfl (by decide) rfl ?_
    have hri : inR r := by (rcases (show ch = 0 ∨ ch = 1 by omega) with e | e; { rw [h5.2.1 e]; exact (he i (by omega) (by omega)).1 }; { rw [h5.2.2 e]; exact (he i (by omega) (by omega)).2 (by omega) })
    refine j_i2l jb dL_got_8 hri ?_
    refine j_last (ws' := [(m0, oX11 sa ct sb ow s0 pk pd rd op sp), (op, oX4 or ok on och otn osb obh), (or, aG x.g 2 (rf2 oa ob)), (oa, aI x.g 400 e0), (ob, aI x.g 400 e1), (ot, aL x.g 1 (zup fo 0 r))]) jb dL_got_9 5 rfl (by decide) (by decide) rfl ?_
    refine j_goto (tgt := 17) jb dL_got_10 (by decide) ?_
    refine j_iconst jb dL_got_17 ?_
    exact j_iret jb jr dL_got_18 ⟨0, zup fo 0 r, rfl, rfl, Or.inl ⟨h5.1, rfl, fun e => by rw [zup_s]; exact h5.2.1 e, fun e => by rw [zup_s]; exact h5.2.2 e⟩⟩

