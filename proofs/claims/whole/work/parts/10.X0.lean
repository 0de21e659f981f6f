set_option maxHeartbeats 4000000 in
set_option maxRecDepth 100000 in
theorem C_X0_has (l : Launch) (g : GG) (h0 h1 : Nat) (len fa pos : Int) (i : Int) (hl : 0 ≤ len ∧ len ≤ 2400) (hi : inR i) : Ctr l g yX0_has cX0_has 2 (some .boolean) 0 0 0 0 [.ref h0, .int (iI i)] [(h0, oX0 h1 len fa pos)] (fun vv ww => vv = some (.int (iI (b2i (0 ≤ i ∧ i < len)))) ∧ ww = [(h0, oX0 h1 len fa pos)]) := by
  refine Ctr.of [(0, .ref h0), (1, .int (iI i))] (by decide) (Nat.le_of_ble_eq_true rfl) rfl ?_
  intro x hxl hxg jb jr hin
  subst hxl; subst hxg
  refine j_iload_n jb dX0_has_0 1 rfl ?_
  refine j_if_lt (tgt := 16) jb dX0_has_1 (by decide) (by omega) (fun c_1 => ?_) (fun c_1 => ?_)
  · skip
    refine j_iconst jb dX0_has_16 ?_
    refine j_norm (lv' := []) (st' := [.int (iI 0)]) (ws' := [(h0, oX0 h1 len fa pos)]) [] [0] rfl rfl (by decide) rfl ?_
    exact j_zret jb jr dX0_has_17 rfl ⟨(vb0 (by omega)), rfl⟩
  · skip
    refine j_iload_n jb dX0_has_4 1 rfl ?_
    refine j_aload_n jb dX0_has_5 0 rfl ?_
    refine j_get jb f_X0_15 dX0_has_6 0 rfl rfl ?_
    refine j_icmp_ge (tgt := 16) jb dX0_has_9 (by decide) (by omega) (by omega) (fun c_9 => ?_) (fun c_9 => ?_)
    · skip
      refine j_iconst jb dX0_has_16 ?_
      refine j_norm (lv' := []) (st' := [.int (iI 0)]) (ws' := [(h0, oX0 h1 len fa pos)]) [] [0] rfl rfl (by decide) rfl ?_
      exact j_zret jb jr dX0_has_17 rfl ⟨(vb0 (by omega)), rfl⟩
    · skip
      refine j_iconst jb dX0_has_12 ?_
      refine j_goto (tgt := 17) jb dX0_has_13 (by decide) ?_
      refine j_norm (lv' := []) (st' := [.int (iI 1)]) (ws' := [(h0, oX0 h1 len fa pos)]) [] [0] rfl rfl (by decide) rfl ?_
      exact j_zret jb jr dX0_has_17 rfl ⟨(vb1 (by omega)), rfl⟩

set_option maxHeartbeats 4000000 in
set_option maxRecDepth 100000 in
theorem C_X0_begin (l : Launch) (g : GG) (h0 h1 : Nat) (len fa pos : Int) (i : Int)  : Ctr l g yX0_begin cX0_begin 2 none 0 0 0 0 [.ref h0, .int (iI i)] [(h0, oX0 h1 len fa pos)] (fun vv ww => vv = none ∧ ww = [(h0, oX0 h1 len 0 (8 * i))]) := by
  refine Ctr.of [(0, .ref h0), (1, .int (iI i))] (by decide) (Nat.le_of_ble_eq_true rfl) rfl ?_
  intro x hxl hxg jb jr hin
  subst hxl; subst hxg
  refine j_aload_n jb dX0_begin_0 0 rfl ?_
  refine j_bipush jb dX0_begin_1 (by decide) ?_
  refine j_iload_n jb dX0_begin_3 1 rfl ?_
  refine j_imul jb dX0_begin_4 ?_
  refine j_put (ws' := [(h0, oX0 h1 len fa (8 * i))]) jb f_X0_19 w_X0_3 rfl dX0_begin_5 0 rfl rfl rfl (Nat.le_of_ble_eq_true rfl) rfl ?_
  refine j_aload_n jb dX0_begin_8 0 rfl ?_
  refine j_iconst jb dX0_begin_9 ?_
  refine j_put (ws' := [(h0, oX0 h1 len 0 (8 * i))]) jb f_X0_22 w_X0_2 rfl dX0_begin_10 0 rfl rfl rfl (Nat.le_of_ble_eq_true rfl) rfl ?_
  refine j_norm (lv' := []) (st' := []) (ws' := [(h0, oX0 h1 len 0 (8 * i))]) [] [0] rfl rfl (by decide) rfl ?_
  exact j_vret jb jr dX0_begin_13 ⟨rfl, rfl⟩

set_option maxHeartbeats 4000000 in
set_option maxRecDepth 100000 in
theorem C_X0_placeNow (l : Launch) (g : GG) (h0 h1 : Nat) (len fa pos : Int) (hp : inR pos) : Ctr l g yX0_placeNow cX0_placeNow 1 (some .int) 0 0 0 0 [.ref h0] [(h0, oX0 h1 len fa pos)] (fun vv ww => vv = some (.int (iI (pos / 8))) ∧ ww = [(h0, oX0 h1 len fa pos)]) := by
  refine Ctr.of [(0, .ref h0)] (by decide) (Nat.le_of_ble_eq_true rfl) rfl ?_
  intro x hxl hxg jb jr hin
  subst hxl; subst hxg
  refine j_aload_n jb dX0_placeNow_0 0 rfl ?_
  refine j_get jb f_X0_19 dX0_placeNow_1 0 rfl rfl ?_
  refine j_iconst jb dX0_placeNow_4 ?_
  refine j_ishr jb dX0_placeNow_5 (by omega) (by omega) ?_
  refine j_topi (pos / 8) (p3 pos) ?_
  refine j_norm (lv' := []) (st' := [.int (iI (pos / 8))]) (ws' := [(h0, oX0 h1 len fa pos)]) [] [0] rfl rfl (by decide) rfl ?_
  exact j_iret jb jr dX0_placeNow_6 ⟨rfl, rfl⟩

set_option maxHeartbeats 4000000 in
set_option maxRecDepth 100000 in
theorem C_X0_bitsToByte (l : Launch) (g : GG) (h0 h1 : Nat) (len fa pos : Int)  : Ctr l g yX0_bitsToByte cX0_bitsToByte 1 (some .int) 0 0 0 0 [.ref h0] [(h0, oX0 h1 len fa pos)] (fun vv ww => vv = some (.int (iI (-pos % 8))) ∧ ww = [(h0, oX0 h1 len fa pos)]) := by
  refine Ctr.of [(0, .ref h0)] (by decide) (Nat.le_of_ble_eq_true rfl) rfl ?_
  intro x hxl hxg jb jr hin
  subst hxl; subst hxg
  refine j_aload_n jb dX0_bitsToByte_0 0 rfl ?_
  refine j_get jb f_X0_19 dX0_bitsToByte_1 0 rfl rfl ?_
  refine j_ineg jb dX0_bitsToByte_4 ?_
  refine j_bipush jb dX0_bitsToByte_5 (by decide) ?_
  refine j_iand jb dX0_bitsToByte_7 ?_
  refine j_topi (-pos % 8) (zAnd_7 _) ?_
  refine j_norm (lv' := []) (st' := [.int (iI (-pos % 8))]) (ws' := [(h0, oX0 h1 len fa pos)]) [] [0] rfl rfl (by decide) rfl ?_
  exact j_iret jb jr dX0_bitsToByte_8 ⟨rfl, rfl⟩

set_option maxHeartbeats 4000000 in
set_option maxRecDepth 100000 in
theorem C_X0_faultIf (l : Launch) (g : GG) (h0 h1 : Nat) (len fa pos : Int) (wr which : Int) (hw : inR wr) (hf : inR fa) (hc : inR which) : Ctr l g yX0_faultIf cX0_faultIf 3 (some .boolean) 0 0 0 0 [.ref h0, .int (iI wr), .int (iI which)] [(h0, oX0 h1 len fa pos)] (fun vv ww => ∃ (fa2 : Int), vv = some (.int (iI (b2i (fa2 ≠ 0)))) ∧ ww = [(h0, oX0 h1 len fa2 pos)] ∧ fa2 = fltIf wr fa which) := by
  refine Ctr.of [(0, .ref h0), (1, .int (iI wr)), (2, .int (iI which))] (by decide) (Nat.le_of_ble_eq_true rfl) rfl ?_
  intro x hxl hxg jb jr hin
  subst hxl; subst hxg
  refine j_iload_n jb dX0_faultIf_0 1 rfl ?_
  refine j_if_eq (tgt := 16) jb dX0_faultIf_1 (by decide) (by omega) (fun c_1 => ?_) (fun c_1 => ?_)
  · skip
    refine j_aload_n jb dX0_faultIf_16 0 rfl ?_
    refine j_get jb f_X0_22 dX0_faultIf_17 0 rfl rfl ?_
    refine j_if_eq (tgt := 27) jb dX0_faultIf_20 (by decide) (by omega) (fun c_20 => ?_) (fun c_20 => ?_)
    · skip
      refine j_iconst jb dX0_faultIf_27 ?_
      refine j_norm (lv' := []) (st' := [.int (iI 0)]) (ws' := [(h0, oX0 h1 len fa pos)]) [] [0] rfl rfl (by decide) rfl ?_
      exact j_zret jb jr dX0_faultIf_28 rfl ⟨_, (vb0 (by omega)), rfl, (by unfold fltIf; first | (rw [if_pos (by omega)]; done) | (rw [if_neg (by omega)]; done))⟩
    · skip
      refine j_iconst jb dX0_faultIf_23 ?_
      refine j_goto (tgt := 28) jb dX0_faultIf_24 (by decide) ?_
      refine j_norm (lv' := []) (st' := [.int (iI 1)]) (ws' := [(h0, oX0 h1 len fa pos)]) [] [0] rfl rfl (by decide) rfl ?_
      exact j_zret jb jr dX0_faultIf_28 rfl ⟨_, (vb1 (by omega)), rfl, (by unfold fltIf; first | (rw [if_pos (by omega)]; done) | (rw [if_neg (by omega)]; done))⟩
  · skip
    refine j_aload_n jb dX0_faultIf_4 0 rfl ?_
    refine j_get jb f_X0_22 dX0_faultIf_5 0 rfl rfl ?_
    refine j_if_ne (tgt := 16) jb dX0_faultIf_8 (by decide) (by omega) (fun c_8 => ?_) (fun c_8 => ?_)
    · skip
      refine j_aload_n jb dX0_faultIf_16 0 rfl ?_
      refine j_get jb f_X0_22 dX0_faultIf_17 0 rfl rfl ?_
      refine j_if_eq (tgt := 27) jb dX0_faultIf_20 (by decide) (by omega) (fun c_20 => ?_) (fun c_20 => ?_)
      · skip
        refine j_iconst jb dX0_faultIf_27 ?_
        refine j_norm (lv' := []) (st' := [.int (iI 0)]) (ws' := [(h0, oX0 h1 len fa pos)]) [] [0] rfl rfl (by decide) rfl ?_
        exact j_zret jb jr dX0_faultIf_28 rfl ⟨_, (vb0 (by omega)), rfl, (by unfold fltIf; first | (rw [if_pos (by omega)]; done) | (rw [if_neg (by omega)]; done))⟩
      · skip
        refine j_iconst jb dX0_faultIf_23 ?_
        refine j_goto (tgt := 28) jb dX0_faultIf_24 (by decide) ?_
        refine j_norm (lv' := []) (st' := [.int (iI 1)]) (ws' := [(h0, oX0 h1 len fa pos)]) [] [0] rfl rfl (by decide) rfl ?_
        exact j_zret jb jr dX0_faultIf_28 rfl ⟨_, (vb1 (by omega)), rfl, (by unfold fltIf; first | (rw [if_pos (by omega)]; done) | (rw [if_neg (by omega)]; done))⟩
    · skip
      refine j_aload_n jb dX0_faultIf_11 0 rfl ?_
      refine j_iload_n jb dX0_faultIf_12 2 rfl ?_
      refine j_put (ws' := [(h0, oX0 h1 len which pos)]) jb f_X0_22 w_X0_2 rfl dX0_faultIf_13 0 rfl rfl rfl (Nat.le_of_ble_eq_true rfl) rfl ?_
      refine j_aload_n jb dX0_faultIf_16 0 rfl ?_
      refine j_get jb f_X0_22 dX0_faultIf_17 0 rfl rfl ?_
      refine j_if_eq (tgt := 27) jb dX0_faultIf_20 (by decide) (by omega) (fun c_20 => ?_) (fun c_20 => ?_)
      · skip
        refine j_iconst jb dX0_faultIf_27 ?_
        refine j_norm (lv' := []) (st' := [.int (iI 0)]) (ws' := [(h0, oX0 h1 len which pos)]) [] [0] rfl rfl (by decide) rfl ?_
        exact j_zret jb jr dX0_faultIf_28 rfl ⟨_, (vb0 (by omega)), rfl, (by unfold fltIf; first | (rw [if_pos (by omega)]; done) | (rw [if_neg (by omega)]; done))⟩
      · skip
        refine j_iconst jb dX0_faultIf_23 ?_
        refine j_goto (tgt := 28) jb dX0_faultIf_24 (by decide) ?_
        refine j_norm (lv' := []) (st' := [.int (iI 1)]) (ws' := [(h0, oX0 h1 len which pos)]) [] [0] rfl rfl (by decide) rfl ?_
        exact j_zret jb jr dX0_faultIf_28 rfl ⟨_, (vb1 (by omega)), rfl, (by unfold fltIf; first | (rw [if_pos (by omega)]; done) | (rw [if_neg (by omega)]; done))⟩

set_option maxHeartbeats 4000000 in
set_option maxRecDepth 100000 in
theorem C_X0_sumOf (l : Launch) (g : GG) (h0 h1 : Nat) (B : Int → Int) (len fa pos : Int) (fr to : Int) (hB : isBytes B) (hf : 0 ≤ fr ∧ fr ≤ to ∧ to ≤ 2400) : Ctr l g yX0_sumOf cX0_sumOf 6 (some .int) 0 0 0 0 [.ref h0, .int (iI fr), .int (iI to)] [(h0, oX0 h1 len fa pos), (h1, aI g 2400 B)] (fun vv ww => ∃ (r : Int), vv = some (.int (iI r)) ∧ ww = [(h0, oX0 h1 len fa pos), (h1, aI g 2400 B)] ∧ r = crc B fr (to - fr).toNat ∧ 0 ≤ r ∧ r < 256) := by
  refine Ctr.of [(0, .ref h0), (1, .int (iI fr)), (2, .int (iI to))] (by decide) (Nat.le_of_ble_eq_true rfl) rfl ?_
  intro x hxl hxg jb jr hin
  subst hxl; subst hxg
  refine j_iconst jb dX0_sumOf_0 ?_
  refine j_istore_n (lv' := [(3, .int (iI 0)), (0, .ref h0), (1, .int (iI fr)), (2, .int (iI to))]) jb dX0_sumOf_1 rfl (by decide) rfl ?_
  refine j_iload_n jb dX0_sumOf_2 2 rfl ?_
  refine j_istore (lv' := [(4, .int (iI fr)), (3, .int (iI 0)), (0, .ref h0), (1, .int (iI fr)), (2, .int (iI to))]) jb dX0_sumOf_3 (by decide) rfl ?_
  have L5 : ∀ (fu : Nat) (s i : Int), (fr ≤ i ∧ i ≤ to ∧ s = crc B fr (i - fr).toNat ∧ 0 ≤ s ∧ s < 256) → (to - i).toNat < fu → JW x 0 0 5 [(0, .ref h0), (1, .int (iI fr)), (2, .int (iI to)), (3, .int (iI s)), (4, .int (iI i))] [] [(h0, oX0 h1 len fa pos), (h1, aI x.g 2400 B)] := by
    intro fu
    induction fu with
    | zero => intro s i _ hm; exact absurd hm (by omega)
    | succ fu ih =>
      intro s i ⟨hi1, hi2, hi3, hi4, hi5⟩ hm5
      have ih5 := ih
      clear ih
      refine j_iload jb dX0_sumOf_5 4 rfl ?_
      refine j_iload_n jb dX0_sumOf_7 2 rfl ?_
      refine j_icmp_ge (tgt := 68) jb dX0_sumOf_8 (by decide) (by omega) (by omega) (fun c_8 => ?_) (fun c_8 => ?_)
      · skip
        refine j_iload_n jb dX0_sumOf_68 3 rfl ?_
        refine j_norm (lv' := []) (st' := [.int (iI s)]) (ws' := [(h0, oX0 h1 len fa pos), (h1, aI x.g 2400 B)]) [] [0, 1] rfl rfl (by decide) rfl ?_
        exact j_iret jb jr dX0_sumOf_69 ⟨_, rfl, rfl, ⟨by rw [hi3, show i = to by omega], hi4, hi5⟩⟩
      · skip
        refine j_iload jb dX0_sumOf_11 4 rfl ?_
        refine j_sipush jb dX0_sumOf_13 (by decide) ?_
        refine j_icmp_ge (tgt := 68) jb dX0_sumOf_16 (by decide) (by omega) (by omega) (fun c_16 => ?_) (fun c_16 => ?_)
        · skip
          refine j_iload_n jb dX0_sumOf_68 3 rfl ?_
          refine j_norm (lv' := []) (st' := [.int (iI s)]) (ws' := [(h0, oX0 h1 len fa pos), (h1, aI x.g 2400 B)]) [] [0, 1] rfl rfl (by decide) rfl ?_
          exact j_iret jb jr dX0_sumOf_69 ⟨_, rfl, rfl, ⟨by rw [hi3, show i = to by omega], hi4, hi5⟩⟩
        · skip
          refine j_iload_n jb dX0_sumOf_19 3 rfl ?_
          refine j_aload_n jb dX0_sumOf_20 0 rfl ?_
          refine j_get jb f_X0_9 dX0_sumOf_21 0 rfl rfl ?_
          refine j_iload jb dX0_sumOf_24 4 rfl ?_
          refine j_iald jb dX0_sumOf_26 1 rfl (by omega) (by decide) ?_
          refine j_ixor jb dX0_sumOf_27 ?_
          refine j_istore_n (lv' := [(3, .int (iI (zXor s (B i)))), (0, .ref h0), (1, .int (iI fr)), (2, .int (iI to)), (4, .int (iI i))]) jb dX0_sumOf_28 rfl (by decide) rfl ?_
          refine j_iconst jb dX0_sumOf_29 ?_
          refine j_istore (lv' := [(5, .int (iI 0)), (3, .int (iI (zXor s (B i)))), (0, .ref h0), (1, .int (iI fr)), (2, .int (iI to)), (4, .int (iI i))]) jb dX0_sumOf_30 (by decide) rfl ?_
          have L32 : ∀ (fu : Nat) (s2 t : Int), (0 ≤ t ∧ t ≤ 8 ∧ s2 = crcR t.toNat (zXor s (B i)) ∧ 0 ≤ s2 ∧ s2 < 256) → (8 - t).toNat < fu → JW x 0 0 32 [(0, .ref h0), (1, .int (iI fr)), (2, .int (iI to)), (3, .int (iI s2)), (4, .int (iI i)), (5, .int (iI t))] [] [(h0, oX0 h1 len fa pos), (h1, aI x.g 2400 B)] := by
            intro fu
            induction fu with
            | zero => intro s2 t _ hm; exact absurd hm (by omega)
            | succ fu ih =>
              intro s2 t ⟨hk1, hk2, hk3, hk4, hk5⟩ hm32
              have ih32 := ih
              clear ih
              refine j_iload jb dX0_sumOf_32 5 rfl ?_
              refine j_bipush jb dX0_sumOf_34 (by decide) ?_
              refine j_icmp_ge (tgt := 62) jb dX0_sumOf_36 (by decide) (by omega) (by omega) (fun c_36 => ?_) (fun c_36 => ?_)
              · skip
                refine j_iinc (lv' := [(4, .int (iI (i + 1))), (0, .ref h0), (1, .int (iI fr)), (2, .int (iI to)), (3, .int (iI s2)), (5, .int (iI t))]) jb dX0_sumOf_62 4 rfl (by decide) rfl ?_
                refine j_goto (tgt := 5) jb dX0_sumOf_65 (by decide) ?_
                refine j_norm (lv' := [(0, .ref h0), (1, .int (iI fr)), (2, .int (iI to)), (3, .int (iI s2)), (4, .int (iI (i + 1)))]) (st' := []) (ws' := [(h0, oX0 h1 len fa pos), (h1, aI x.g 2400 B)]) [1, 2, 3, 4, 0] [0, 1] rfl rfl (by decide) rfl ?_
                exact ih5 s2 (i + 1) ⟨by omega, by omega, by rw [crc_next hi1 hi3, hk3, show t.toNat = 8 by omega], hk4, hk5⟩ (by omega)
              · skip
                refine j_iload_n jb dX0_sumOf_39 3 rfl ?_
                refine j_iconst jb dX0_sumOf_40 ?_
                refine j_imul jb dX0_sumOf_41 ?_
                refine j_istore_n (lv' := [(3, .int (iI (s2 * 2))), (0, .ref h0), (1, .int (iI fr)), (2, .int (iI to)), (4, .int (iI i)), (5, .int (iI t))]) jb dX0_sumOf_42 rfl (by decide) rfl ?_
                refine j_iload_n jb dX0_sumOf_43 0 rfl ?_
                refine j_sipush jb dX0_sumOf_44 (by decide) ?_
                refine j_icmp_le (tgt := 56) jb dX0_sumOf_47 (by decide) (by omega) (by omega) (fun c_47 => ?_) (fun c_47 => ?_)
                · skip
                  refine j_iinc (lv' := [(5, .int (iI (t + 1))), (3, .int (iI (s2 * 2))), (0, .ref h0), (1, .int (iI fr)), (2, .int (iI to)), (4, .int (iI i))]) jb dX0_sumOf_56 5 rfl (by decide) rfl ?_
                  refine j_goto (tgt := 32) jb dX0_sumOf_59 (by decide) ?_
                  refine j_norm (lv' := [(0, .ref h0), (1, .int (iI fr)), (2, .int (iI to)), (3, .int (iI (s2 * 2))), (4, .int (iI i)), (5, .int (iI (t + 1)))]) (st' := []) (ws' := [(h0, oX0 h1 len fa pos), (h1, aI x.g 2400 B)]) [2, 3, 4, 1, 5, 0] [0, 1] rfl rfl (by decide) rfl ?_
                  exact ih32 (s2 * 2) (t + 1) (by have z := crc1_in ⟨hk4, hk5⟩; have y := crc_step hk1 hk3; first | (rw [crc1_lo c_47] at z y; exact ⟨by omega, by omega, y.symm, z.1, z.2⟩) | (rw [crc1_hi c_47] at z y; exact ⟨by omega, by omega, y.symm, z.1, z.2⟩)) (by omega)
                · skip
                  refine j_iload_n jb dX0_sumOf_50 0 rfl ?_
                  refine j_sipush jb dX0_sumOf_51 (by decide) ?_
                  refine j_ixor jb dX0_sumOf_54 ?_
                  refine j_istore_n (lv' := [(3, .int (iI (zXor (s2 * 2) 263))), (0, .ref h0), (1, .int (iI fr)), (2, .int (iI to)), (4, .int (iI i)), (5, .int (iI t))]) jb dX0_sumOf_55 rfl (by decide) rfl ?_
                  refine j_iinc (lv' := [(5, .int (iI (t + 1))), (3, .int (iI (zXor (s2 * 2) 263))), (0, .ref h0), (1, .int (iI fr)), (2, .int (iI to)), (4, .int (iI i))]) jb dX0_sumOf_56 5 rfl (by decide) rfl ?_
                  refine j_goto (tgt := 32) jb dX0_sumOf_59 (by decide) ?_
                  refine j_norm (lv' := [(0, .ref h0), (1, .int (iI fr)), (2, .int (iI to)), (3, .int (iI (zXor (s2 * 2) 263))), (4, .int (iI i)), (5, .int (iI (t + 1)))]) (st' := []) (ws' := [(h0, oX0 h1 len fa pos), (h1, aI x.g 2400 B)]) [2, 3, 4, 1, 5, 0] [0, 1] rfl rfl (by decide) rfl ?_
                  exact ih32 (zXor (s2 * 2) 263) (t + 1) (by have z := crc1_in ⟨hk4, hk5⟩; have y := crc_step hk1 hk3; first | (rw [crc1_lo c_47] at z y; exact ⟨by omega, by omega, y.symm, z.1, z.2⟩) | (rw [crc1_hi c_47] at z y; exact ⟨by omega, by omega, y.symm, z.1, z.2⟩)) (by omega)
          refine j_norm (lv' := [(0, .ref h0), (1, .int (iI fr)), (2, .int (iI to)), (3, .int (iI (zXor s (B i)))), (4, .int (iI i)), (5, .int (iI 0))]) (st' := []) (ws' := [(h0, oX0 h1 len fa pos), (h1, aI x.g 2400 B)]) [2, 3, 4, 1, 5, 0] [0, 1] rfl rfl (by decide) rfl ?_
          exact L32 _ (zXor s (B i)) 0 ⟨by decide, by decide, rfl, (zXor_8 ⟨hi4, hi5⟩ (hB i (by omega) (by omega))).1, (zXor_8 ⟨hi4, hi5⟩ (hB i (by omega) (by omega))).2⟩ (Nat.lt_succ_self _)
  refine j_norm (lv' := [(0, .ref h0), (1, .int (iI fr)), (2, .int (iI to)), (3, .int (iI 0)), (4, .int (iI fr))]) (st' := []) (ws' := [(h0, oX0 h1 len fa pos), (h1, aI x.g 2400 B)]) [2, 3, 4, 1, 0] [0, 1] rfl rfl (by decide) rfl ?_
  exact L5 _ 0 fr ⟨Int.le_refl _, hf.2.1, by rw [Int.sub_self]; rfl, by decide, by decide⟩ (Nat.lt_succ_self _)

set_option maxHeartbeats 4000000 in
set_option maxRecDepth 100000 in
theorem C_X0_writeBit (l : Launch) (g : GG) (h0 h1 : Nat) (B : Int → Int) (len fa pos : Int) (bit : Int) (hB : isBytes B) (hp : 0 ≤ pos ∧ pos < 19200) (hb : bit = 0 ∨ bit = 1) : Ctr l g yX0_writeBit cX0_writeBit 4 none 0 0 0 0 [.ref h0, .int (iI bit)] [(h0, oX0 h1 len fa pos), (h1, aI g 2400 B)] (fun vv ww => ∃ (B2 : Int → Int), vv = none ∧ ww = [(h0, oX0 h1 len fa (pos + 1)), (h1, aI g 2400 B2)] ∧ wrote 2400 B pos [bit] B2) := by
  refine Ctr.of [(0, .ref h0), (1, .int (iI bit))] (by decide) (Nat.le_of_ble_eq_true rfl) rfl ?_
  intro x hxl hxg jb jr hin
  subst hxl; subst hxg
  refine j_aload_n jb dX0_writeBit_0 0 rfl ?_
  refine j_get jb f_X0_19 dX0_writeBit_1 0 rfl rfl ?_
  refine j_iconst jb dX0_writeBit_4 ?_
  refine j_ishr jb dX0_writeBit_5 (by omega) (by omega) ?_
  refine j_topi (pos / 8) (p3 pos) ?_
  refine j_istore_n (lv' := [(2, .int (iI (pos / 8))), (0, .ref h0), (1, .int (iI bit))]) jb dX0_writeBit_6 rfl (by decide) rfl ?_
  refine j_iload_n jb dX0_writeBit_7 0 rfl ?_
  refine j_sipush jb dX0_writeBit_8 (by decide) ?_
  refine j_icmp_ge (tgt := 67) jb dX0_writeBit_11 (by decide) (by omega) (by omega) (fun c_11 => ?_) (fun c_11 => ?_)
  · skip
    exact absurd c_11 (by omega)
  · skip
    refine j_sipush jb dX0_writeBit_14 (by decide) ?_
    refine j_aload_n jb dX0_writeBit_17 1 rfl ?_
    refine j_get jb f_X0_19 dX0_writeBit_18 0 rfl rfl ?_
    refine j_bipush jb dX0_writeBit_21 (by decide) ?_
    refine j_iand jb dX0_writeBit_23 ?_
    refine j_topi (pos % 8) (zAnd_7 pos) ?_
    refine j_ishr jb dX0_writeBit_24 (by omega) (by omega) ?_
    refine j_istore_n (lv' := [(3, .int (iI (128 / 2 ^ (pos % 8).toNat))), (2, .int (iI (pos / 8))), (0, .ref h0), (1, .int (iI bit))]) jb dX0_writeBit_25 rfl (by decide) rfl ?_
    refine j_aload_n jb dX0_writeBit_26 2 rfl ?_
    refine j_get jb f_X0_9 dX0_writeBit_27 0 rfl rfl ?_
    refine j_iload_n jb dX0_writeBit_30 1 rfl ?_
    refine j_iload_n jb dX0_writeBit_31 3 rfl ?_
    refine j_if_ne (tgt := 48) jb dX0_writeBit_32 (by decide) (by omega) (fun c_32 => ?_) (fun c_32 => ?_)
    · skip
      refine j_aload_n jb dX0_writeBit_48 2 rfl ?_
      refine j_get jb f_X0_9 dX0_writeBit_49 0 rfl rfl ?_
      refine j_iload_n jb dX0_writeBit_52 1 rfl ?_
      refine j_iald jb dX0_writeBit_53 1 rfl (by omega) (by decide) ?_
      refine j_iload_n jb dX0_writeBit_54 0 rfl ?_
      refine j_ior jb dX0_writeBit_55 ?_
      refine j_iast (ws' := [(h0, oX0 h1 len fa pos), (h1, aI x.g 2400 (zup B (pos / 8) (zOr (B (pos / 8)) (128 / 2 ^ (pos % 8).toNat))))]) jb dX0_writeBit_56 1 rfl (by omega) (by decide) rfl ?_
      refine j_aload_n jb dX0_writeBit_57 2 rfl ?_
      refine j_dup jb dX0_writeBit_58 rfl ?_
      refine j_get jb f_X0_19 dX0_writeBit_59 0 rfl rfl ?_
      refine j_iconst jb dX0_writeBit_62 ?_
      refine j_iadd jb dX0_writeBit_63 ?_
      refine j_put (ws' := [(h0, oX0 h1 len fa (pos + 1)), (h1, aI x.g 2400 (zup B (pos / 8) (zOr (B (pos / 8)) (128 / 2 ^ (pos % 8).toNat))))]) jb f_X0_19 w_X0_3 rfl dX0_writeBit_64 0 rfl rfl rfl (Nat.le_of_ble_eq_true rfl) rfl ?_
      refine j_norm (lv' := []) (st' := []) (ws' := [(h0, oX0 h1 len fa (pos + 1)), (h1, aI x.g 2400 (zup B (pos / 8) (zOr (B (pos / 8)) (128 / 2 ^ (pos % 8).toNat))))]) [] [0, 1] rfl rfl (by decide) rfl ?_
      exact j_vret jb jr dX0_writeBit_67 ⟨_, rfl, rfl, (by have z := wrote_one (N := 2400) (bit := bit) hB hp.1 (by omega) hb; unfold putB at z; first | (rw [if_pos c_32] at z; exact z) | (rw [if_neg c_32] at z; exact z))⟩
    · skip
      refine j_aload_n jb dX0_writeBit_35 2 rfl ?_
      refine j_get jb f_X0_9 dX0_writeBit_36 0 rfl rfl ?_
      refine j_iload_n jb dX0_writeBit_39 1 rfl ?_
      refine j_iald jb dX0_writeBit_40 1 rfl (by omega) (by decide) ?_
      refine j_iload_n jb dX0_writeBit_41 0 rfl ?_
      refine j_iconst jb dX0_writeBit_42 ?_
      refine j_ixor jb dX0_writeBit_43 ?_
      refine j_iand jb dX0_writeBit_44 ?_
      refine j_goto (tgt := 56) jb dX0_writeBit_45 (by decide) ?_
      refine j_iast (ws' := [(h0, oX0 h1 len fa pos), (h1, aI x.g 2400 (zup B (pos / 8) (zAnd (B (pos / 8)) (zXor (128 / 2 ^ (pos % 8).toNat) (-1)))))]) jb dX0_writeBit_56 1 rfl (by omega) (by decide) rfl ?_
      refine j_aload_n jb dX0_writeBit_57 2 rfl ?_
      refine j_dup jb dX0_writeBit_58 rfl ?_
      refine j_get jb f_X0_19 dX0_writeBit_59 0 rfl rfl ?_
      refine j_iconst jb dX0_writeBit_62 ?_
      refine j_iadd jb dX0_writeBit_63 ?_
      refine j_put (ws' := [(h0, oX0 h1 len fa (pos + 1)), (h1, aI x.g 2400 (zup B (pos / 8) (zAnd (B (pos / 8)) (zXor (128 / 2 ^ (pos % 8).toNat) (-1)))))]) jb f_X0_19 w_X0_3 rfl dX0_writeBit_64 0 rfl rfl rfl (Nat.le_of_ble_eq_true rfl) rfl ?_
      refine j_norm (lv' := []) (st' := []) (ws' := [(h0, oX0 h1 len fa (pos + 1)), (h1, aI x.g 2400 (zup B (pos / 8) (zAnd (B (pos / 8)) (zXor (128 / 2 ^ (pos % 8).toNat) (-1)))))]) [] [0, 1] rfl rfl (by decide) rfl ?_
      exact j_vret jb jr dX0_writeBit_67 ⟨_, rfl, rfl, (by have z := wrote_one (N := 2400) (bit := bit) hB hp.1 (by omega) hb; unfold putB at z; first | (rw [if_pos c_32] at z; exact z) | (rw [if_neg c_32] at z; exact z))⟩

set_option maxHeartbeats 4000000 in
set_option maxRecDepth 100000 in
theorem C_X0_write (l : Launch) (g : GG) (h0 h1 : Nat) (B : Int → Int) (len fa pos : Int) (num bits : Int) (hB : isBytes B) (hn : inR num) (hb : 0 ≤ bits ∧ bits ≤ 31) (hp : 0 ≤ pos ∧ pos + bits ≤ 19200) : Ctr l g yX0_write cX0_write 4 none 1 30 0 0 [.ref h0, .int (iI num), .int (iI bits)] [(h0, oX0 h1 len fa pos), (h1, aI g 2400 B)] (fun vv ww => ∃ (B2 : Int → Int) (pos2 : Int), vv = none ∧ ww = [(h0, oX0 h1 len fa pos2), (h1, aI g 2400 B2)] ∧ wrote 2400 B pos (nb num bits.toNat bits.toNat) B2 ∧ pos2 = pos + bits) := by
  refine Ctr.of [(0, .ref h0), (1, .int (iI num)), (2, .int (iI bits))] (by decide) (Nat.le_of_ble_eq_true rfl) rfl ?_
  intro x hxl hxg jb jr hin
  subst hxl; subst hxg
  refine j_iload_n jb dX0_write_0 2 rfl ?_
  refine j_iconst jb dX0_write_1 ?_
  refine j_isub jb dX0_write_2 ?_
  refine j_istore_n (lv' := [(3, .int (iI (bits - 1))), (0, .ref h0), (1, .int (iI num)), (2, .int (iI bits))]) jb dX0_write_3 rfl (by decide) rfl ?_
  have L4 : ∀ (fu : Nat) (i p : Int) (B1 : Int → Int), (-1 ≤ i ∧ i ≤ bits - 1 ∧ p = pos + (bits - 1 - i) ∧ wrote 2400 B pos (nb num bits.toNat (bits - 1 - i).toNat) B1) → (i + 1).toNat < fu → JW x 0 0 4 [(0, .ref h0), (1, .int (iI num)), (2, .int (iI bits)), (3, .int (iI i))] [] [(h0, oX0 h1 len fa p), (h1, aI x.g 2400 B1)] := by
    intro fu
    induction fu with
    | zero => intro i p B1 _ hm; exact absurd hm (by omega)
    | succ fu ih =>
      intro i p B1 ⟨hi1, hi2, hi3, hi4⟩ hm4
      have ih4 := ih
      clear ih
      refine j_iload_n jb dX0_write_4 3 rfl ?_
      refine j_if_lt (tgt := 23) jb dX0_write_5 (by decide) (by omega) (fun c_5 => ?_) (fun c_5 => ?_)
      · skip
        refine j_norm (lv' := []) (st' := []) (ws' := [(h0, oX0 h1 len fa p), (h1, aI x.g 2400 B1)]) [] [0, 1] rfl rfl (by decide) rfl ?_
        exact j_vret jb jr dX0_write_23 ⟨_, _, rfl, rfl, ⟨by have z := hi4; rw [show bits - 1 - i = bits by omega] at z; exact z, by omega⟩⟩
      · skip
        refine j_aload_n jb dX0_write_8 0 rfl ?_
        refine j_iload_n jb dX0_write_9 1 rfl ?_
        refine j_iload_n jb dX0_write_10 3 rfl ?_
        refine j_ishr jb dX0_write_11 (by omega) (by omega) ?_
        refine j_iconst jb dX0_write_12 ?_
        refine j_iand jb dX0_write_13 ?_
        refine j_topi (num / 2 ^ i.toNat % 2) (zAnd_1 _) ?_
        refine j_callV (wr := []) jb k_X0_writeBit i_X0_writeBit s_X0_writeBit l_X0_25 (C_X0_writeBit x.l x.g h0 h1 B1 len fa p (num / 2 ^ i.toNat % 2) hi4.1 (by omega) (by omega)) 0 2 rfl rfl rfl [0, 1] [] (by decide) rfl rfl (by decide) (by decide) rfl rfl (Nat.le_of_ble_eq_true rfl) (by decide) dX0_write_14 (fun v w hp => ?_)
        obtain ⟨B2_14, rfl, rfl, h_14⟩ := hp
        refine j_norm (lv' := [(0, .ref h0), (1, .int (iI num)), (2, .int (iI bits)), (3, .int (iI i))]) (st' := []) (ws' := [(h0, oX0 h1 len fa (p + 1)), (h1, aI x.g 2400 B2_14)]) [0, 1, 2, 3] [0, 1] rfl rfl (by decide) rfl ?_
        refine j_iinc (lv' := [(3, .int (iI (i + -1))), (0, .ref h0), (1, .int (iI num)), (2, .int (iI bits))]) jb dX0_write_17 3 rfl (by decide) rfl ?_
        refine j_goto (tgt := 4) jb dX0_write_20 (by decide) ?_
        refine j_norm (lv' := [(0, .ref h0), (1, .int (iI num)), (2, .int (iI bits)), (3, .int (iI (i + -1)))]) (st' := []) (ws' := [(h0, oX0 h1 len fa (p + 1)), (h1, aI x.g 2400 B2_14)]) [1, 2, 3, 0] [0, 1] rfl rfl (by decide) rfl ?_
        exact ih4 (i + -1) (p + 1) B2_14 ⟨by omega, by omega, by omega, by rw [show (bits - 1 - (i + -1)).toNat = (bits - 1 - i).toNat + 1 by omega, nb_succ, show bits.toNat - 1 - (bits - 1 - i).toNat = i.toNat by omega]; exact wrote_app hi4 h_14 hp.1 (by rw [nb_len]; omega)⟩ (by omega)
  refine j_norm (lv' := [(0, .ref h0), (1, .int (iI num)), (2, .int (iI bits)), (3, .int (iI (bits - 1)))]) (st' := []) (ws' := [(h0, oX0 h1 len fa pos), (h1, aI x.g 2400 B)]) [1, 2, 3, 0] [0, 1] rfl rfl (by decide) rfl ?_
  exact L4 _ (bits - 1) pos B ⟨by omega, by omega, by omega, by rw [show bits - 1 - (bits - 1) = 0 by omega]; exact wrote_nil hB⟩ (Nat.lt_succ_self _)

set_option maxHeartbeats 4000000 in
set_option maxRecDepth 100000 in
theorem C_X0_writeFolded (l : Launch) (g : GG) (h0 h1 : Nat) (B : Int → Int) (len fa pos : Int) (u k : Int) (hB : isBytes B) (hu : 0 ≤ u ∧ u < 16777216) (hk : 0 ≤ k ∧ k ≤ 14) (hp : 0 ≤ pos ∧ pos + u / 2 ^ k.toNat + 1 + k ≤ 19200) : Ctr l g yX0_writeFolded cX0_writeFolded 4 none 2 60 0 0 [.ref h0, .int (iI u), .int (iI k)] [(h0, oX0 h1 len fa pos), (h1, aI g 2400 B)] (fun vv ww => ∃ (B2 : Int → Int) (pos2 : Int), vv = none ∧ ww = [(h0, oX0 h1 len fa pos2), (h1, aI g 2400 B2)] ∧ wrote 2400 B pos (List.replicate (u / 2 ^ k.toNat).toNat 1 ++ [0] ++ nb u k.toNat k.toNat) B2 ∧ pos2 = pos + u / 2 ^ k.toNat + 1 + k) := by
  refine Ctr.of [(0, .ref h0), (1, .int (iI u)), (2, .int (iI k))] (by decide) (Nat.le_of_ble_eq_true rfl) rfl ?_
  intro x hxl hxg jb jr hin
  subst hxl; subst hxg
  have q := ediv_in (a := u) k.toNat (M := 16777216) (by decide) (by omega) (by omega)
  have q0 : 0 ≤ u / 2 ^ k.toNat := Int.ediv_nonneg hu.1 (Int.le_of_lt (pw_pos k))
  refine j_iconst jb dX0_writeFolded_0 ?_
  refine j_istore_n (lv' := [(3, .int (iI 0)), (0, .ref h0), (1, .int (iI u)), (2, .int (iI k))]) jb dX0_writeFolded_1 rfl (by decide) rfl ?_
  have L2 : ∀ (fu : Nat) (o p : Int) (B1 : Int → Int), (0 ≤ o ∧ o ≤ u / 2 ^ k.toNat ∧ p = pos + o ∧ wrote 2400 B pos (List.replicate o.toNat 1) B1) → (u / 2 ^ k.toNat - o).toNat < fu → JW x 0 0 2 [(0, .ref h0), (1, .int (iI u)), (2, .int (iI k)), (3, .int (iI o))] [] [(h0, oX0 h1 len fa p), (h1, aI x.g 2400 B1)] := by
    intro fu
    induction fu with
    | zero => intro o p B1 _ hm; exact absurd hm (by omega)
    | succ fu ih =>
      intro o p B1 ⟨hi1, hi2, hi3, hi4⟩ hm2
      have ih2 := ih
      clear ih
      refine j_iload_n jb dX0_writeFolded_2 3 rfl ?_
      refine j_iload_n jb dX0_writeFolded_3 1 rfl ?_
      refine j_iload_n jb dX0_writeFolded_4 2 rfl ?_
      refine j_ishr jb dX0_writeFolded_5 (by omega) (by omega) ?_
      refine j_icmp_ge (tgt := 20) jb dX0_writeFolded_6 (by decide) (by omega) (by omega) (fun c_6 => ?_) (fun c_6 => ?_)
      · skip
        have ho : o = u / 2 ^ k.toNat := by omega
        refine j_aload_n jb dX0_writeFolded_20 0 rfl ?_
        refine j_iconst jb dX0_writeFolded_21 ?_
        refine j_callV (wr := []) jb k_X0_writeBit i_X0_writeBit s_X0_writeBit l_X0_25 (C_X0_writeBit x.l x.g h0 h1 B1 len fa p 0 hi4.1 (by omega) (by omega)) 0 2 rfl rfl rfl [0, 1] [] (by decide) rfl rfl (by decide) (by decide) rfl rfl (Nat.le_of_ble_eq_true rfl) (by decide) dX0_writeFolded_22 (fun v w hp => ?_)
        obtain ⟨B2_22, rfl, rfl, h_22⟩ := hp
        refine j_norm (lv' := [(0, .ref h0), (1, .int (iI u)), (2, .int (iI k)), (3, .int (iI o))]) (st' := []) (ws' := [(h0, oX0 h1 len fa (p + 1)), (h1, aI x.g 2400 B2_22)]) [0, 1, 2, 3] [0, 1] rfl rfl (by decide) rfl ?_
        refine j_aload_n jb dX0_writeFolded_25 0 rfl ?_
        refine j_iload_n jb dX0_writeFolded_26 1 rfl ?_
        refine j_iload_n jb dX0_writeFolded_27 2 rfl ?_
        refine j_callV (wr := []) jb k_X0_write i_X0_write s_X0_write l_X0_29 (C_X0_write x.l x.g h0 h1 B2_22 len fa (p + 1) u k h_22.1 (by omega) (by omega) (by omega)) 0 2 rfl rfl rfl [0, 1] [] (by decide) rfl rfl (by decide) (by decide) rfl rfl (Nat.le_of_ble_eq_true rfl) (by decide) dX0_writeFolded_28 (fun v w hp => ?_)
        obtain ⟨B2_28, pos2_28, rfl, rfl, h_28⟩ := hp
        refine j_norm (lv' := [(0, .ref h0), (1, .int (iI u)), (2, .int (iI k)), (3, .int (iI o))]) (st' := []) (ws' := [(h0, oX0 h1 len fa pos2_28), (h1, aI x.g 2400 B2_28)]) [0, 1, 2, 3] [0, 1] rfl rfl (by decide) rfl ?_
        refine j_norm (lv' := []) (st' := []) (ws' := [(h0, oX0 h1 len fa pos2_28), (h1, aI x.g 2400 B2_28)]) [] [0, 1] rfl rfl (by decide) rfl ?_
        exact j_vret jb jr dX0_writeFolded_31 ⟨_, _, rfl, rfl, ⟨by rw [← ho]; exact wrote_app (wrote_app hi4 h_22 hp.1 (by simp; omega)) h_28.1 hp.1 (by simp; omega), by omega⟩⟩
      · skip
        refine j_aload_n jb dX0_writeFolded_9 0 rfl ?_
        refine j_iconst jb dX0_writeFolded_10 ?_
        refine j_callV (wr := []) jb k_X0_writeBit i_X0_writeBit s_X0_writeBit l_X0_25 (C_X0_writeBit x.l x.g h0 h1 B1 len fa p 1 hi4.1 (by omega) (by omega)) 0 2 rfl rfl rfl [0, 1] [] (by decide) rfl rfl (by decide) (by decide) rfl rfl (Nat.le_of_ble_eq_true rfl) (by decide) dX0_writeFolded_11 (fun v w hp => ?_)
        obtain ⟨B2_11, rfl, rfl, h_11⟩ := hp
        refine j_norm (lv' := [(0, .ref h0), (1, .int (iI u)), (2, .int (iI k)), (3, .int (iI o))]) (st' := []) (ws' := [(h0, oX0 h1 len fa (p + 1)), (h1, aI x.g 2400 B2_11)]) [0, 1, 2, 3] [0, 1] rfl rfl (by decide) rfl ?_
        refine j_iinc (lv' := [(3, .int (iI (o + 1))), (0, .ref h0), (1, .int (iI u)), (2, .int (iI k))]) jb dX0_writeFolded_14 3 rfl (by decide) rfl ?_
        refine j_goto (tgt := 2) jb dX0_writeFolded_17 (by decide) ?_
        refine j_norm (lv' := [(0, .ref h0), (1, .int (iI u)), (2, .int (iI k)), (3, .int (iI (o + 1)))]) (st' := []) (ws' := [(h0, oX0 h1 len fa (p + 1)), (h1, aI x.g 2400 B2_11)]) [1, 2, 3, 0] [0, 1] rfl rfl (by decide) rfl ?_
        exact ih2 (o + 1) (p + 1) B2_11 ⟨by omega, by omega, by omega, by rw [show (o + 1).toNat = o.toNat + 1 by omega, List.replicate_succ']; exact wrote_app hi4 h_11 hp.1 (by simp; omega)⟩ (by omega)
  refine j_norm (lv' := [(0, .ref h0), (1, .int (iI u)), (2, .int (iI k)), (3, .int (iI 0))]) (st' := []) (ws' := [(h0, oX0 h1 len fa pos), (h1, aI x.g 2400 B)]) [1, 2, 3, 0] [0, 1] rfl rfl (by decide) rfl ?_
  exact L2 _ 0 pos B ⟨by decide, q0, by omega, wrote_nil hB⟩ (Nat.lt_succ_self _)

set_option maxHeartbeats 4000000 in
set_option maxRecDepth 100000 in
theorem C_X0_read (l : Launch) (g : GG) (h0 h1 : Nat) (B : Int → Int) (len fa pos : Int) (bits : Int) (hB : isBytes B) (hl : 0 ≤ len ∧ len ≤ 2400) (hf : inR fa) (hb : 0 ≤ bits ∧ bits ≤ 31) (hp : 0 ≤ pos ∧ pos ≤ 8 * len) : Ctr l g yX0_read cX0_read 4 (some .int) 1 30 0 0 [.ref h0, .int (iI bits)] [(h0, oX0 h1 len fa pos), (h1, aI g 2400 B)] (fun vv ww => ∃ (r fa2 pos2 : Int), vv = some (.int (iI r)) ∧ ww = [(h0, oX0 h1 len fa2 pos2), (h1, aI g 2400 B)] ∧ rdRel B len fa pos bits r fa2 pos2 (num B pos bits.toNat)) := by
  refine Ctr.of [(0, .ref h0), (1, .int (iI bits))] (by decide) (Nat.le_of_ble_eq_true rfl) rfl ?_
  intro x hxl hxg jb jr hin
  subst hxl; subst hxg
  refine j_aload_n jb dX0_read_0 0 rfl ?_
  refine j_aload_n jb dX0_read_1 0 rfl ?_
  refine j_get jb f_X0_19 dX0_read_2 0 rfl rfl ?_
  refine j_iload_n jb dX0_read_5 1 rfl ?_
  refine j_iadd jb dX0_read_6 ?_
  refine j_bipush jb dX0_read_7 (by decide) ?_
  refine j_aload_n jb dX0_read_9 0 rfl ?_
  refine j_get jb f_X0_15 dX0_read_10 0 rfl rfl ?_
  refine j_imul jb dX0_read_13 ?_
  have J22 : ∀ (wr : Int), ((wr = 1 ∧ ¬ pos + bits ≤ 8 * len) ∨ (wr = 0 ∧ pos + bits ≤ 8 * len)) → JW x 0 0 22 [(0, .ref h0), (1, .int (iI bits))] [.int (iI wr), .ref h0] [(h0, oX0 h1 len fa pos), (h1, aI x.g 2400 B)] := by
    intro wr hj22
    refine j_iconst jb dX0_read_22 ?_
    refine j_callV (wr := [(h1, aI x.g 2400 B)]) jb k_X0_faultIf i_X0_faultIf s_X0_faultIf l_X0_33 (C_X0_faultIf x.l x.g h0 h1 len fa pos wr 1 (by omega) (by omega) (by omega)) 0 2 rfl rfl rfl [0] [1] (by decide) rfl rfl (by decide) (by decide) rfl rfl (Nat.le_of_ble_eq_true rfl) (by decide) dX0_read_23 (fun v w hp => ?_)
    obtain ⟨fa2_23, rfl, rfl, h23⟩ := hp
    refine j_norm (lv' := [(0, .ref h0), (1, .int (iI bits))]) (st' := [.int (iI (b2i (fa2_23 ≠ 0)))]) (ws' := [(h0, oX0 h1 len fa2_23 pos), (h1, aI x.g 2400 B)]) [0, 1] [1, 0] rfl rfl (by decide) rfl ?_
    refine j_ifb_eq (tgt := 31) jb dX0_read_26 (by decide) (fun c_26 => ?_) (fun c_26 => ?_)
    · skip
      have hf0 : fa = 0 ∧ pos + bits ≤ 8 * len := by unfold fltIf at h23; split at h23 <;> omega
      have hz0 : fa2_23 = 0 := by omega
      refine j_iconst jb dX0_read_31 ?_
      refine j_istore_n (lv' := [(2, .int (iI 0)), (0, .ref h0), (1, .int (iI bits))]) jb dX0_read_32 rfl (by decide) rfl ?_
      refine j_iconst jb dX0_read_33 ?_
      refine j_istore_n (lv' := [(3, .int (iI 0)), (2, .int (iI 0)), (0, .ref h0), (1, .int (iI bits))]) jb dX0_read_34 rfl (by decide) rfl ?_
      have L35 : ∀ (fu : Nat) (n i p : Int), (0 ≤ i ∧ i ≤ bits ∧ p = pos + i ∧ n = num B pos i.toNat) → (bits - i).toNat < fu → JW x 0 0 35 [(0, .ref h0), (1, .int (iI bits)), (2, .int (iI n)), (3, .int (iI i))] [] [(h0, oX0 h1 len fa2_23 p), (h1, aI x.g 2400 B)] := by
        intro fu
        induction fu with
        | zero => intro n i p _ hm; exact absurd hm (by omega)
        | succ fu ih =>
          intro n i p ⟨hi1, hi2, hi3, hi4⟩ hm35
          have ih35 := ih
          clear ih
          refine j_iload_n jb dX0_read_35 3 rfl ?_
          refine j_iload_n jb dX0_read_36 1 rfl ?_
          refine j_icmp_ge (tgt := 85) jb dX0_read_37 (by decide) (by omega) (by omega) (fun c_37 => ?_) (fun c_37 => ?_)
          · skip
            refine j_iload_n jb dX0_read_85 2 rfl ?_
            refine j_norm (lv' := []) (st' := [.int (iI n)]) (ws' := [(h0, oX0 h1 len fa2_23 p), (h1, aI x.g 2400 B)]) [] [0, 1] rfl rfl (by decide) rfl ?_
            exact j_iret jb jr dX0_read_86 ⟨_, _, _, rfl, rfl, ⟨fun _ => ⟨hz0, by omega, by rw [hi4, show i = bits by omega]⟩, fun h => absurd hf0 h⟩⟩
          · skip
            have hb8 := hB (p / 8) (by omega) (by omega)
            refine j_iconst jb dX0_read_40 ?_
            refine j_iload_n jb dX0_read_41 2 rfl ?_
            refine j_imul jb dX0_read_42 ?_
            refine j_aload_n jb dX0_read_43 0 rfl ?_
            refine j_get jb f_X0_9 dX0_read_44 0 rfl rfl ?_
            refine j_aload_n jb dX0_read_47 0 rfl ?_
            refine j_get jb f_X0_19 dX0_read_48 0 rfl rfl ?_
            refine j_iconst jb dX0_read_51 ?_
            refine j_ishr jb dX0_read_52 (by omega) (by omega) ?_
            refine j_topi (p / 8) (p3 _) ?_
            refine j_iald jb dX0_read_53 1 rfl (by omega) (by decide) ?_
            refine j_bipush jb dX0_read_54 (by decide) ?_
            refine j_aload_n jb dX0_read_56 0 rfl ?_
            refine j_get jb f_X0_19 dX0_read_57 0 rfl rfl ?_
            refine j_bipush jb dX0_read_60 (by decide) ?_
            refine j_iand jb dX0_read_62 ?_
            refine j_topi (p % 8) (zAnd_7 _) ?_
            refine j_isub jb dX0_read_63 ?_
            refine j_ishr jb dX0_read_64 (by omega) (by omega) ?_
            refine j_iconst jb dX0_read_65 ?_
            refine j_iand jb dX0_read_66 ?_
            refine j_topi (bitAt B p) (zAnd_1 _) ?_
            refine j_iadd jb dX0_read_67 ?_
            refine j_istore_n (lv' := [(2, .int (iI ((2 * n) + (bitAt B p)))), (0, .ref h0), (1, .int (iI bits)), (3, .int (iI i))]) jb dX0_read_68 rfl (by decide) rfl ?_
            refine j_aload_n jb dX0_read_69 1 rfl ?_
            refine j_dup jb dX0_read_70 rfl ?_
            refine j_get jb f_X0_19 dX0_read_71 0 rfl rfl ?_
            refine j_iconst jb dX0_read_74 ?_
            refine j_iadd jb dX0_read_75 ?_
            refine j_put (ws' := [(h0, oX0 h1 len fa2_23 (p + 1)), (h1, aI x.g 2400 B)]) jb f_X0_19 w_X0_3 rfl dX0_read_76 0 rfl rfl rfl (Nat.le_of_ble_eq_true rfl) rfl ?_
            refine j_iinc (lv' := [(3, .int (iI (i + 1))), (2, .int (iI ((2 * n) + (bitAt B p)))), (0, .ref h0), (1, .int (iI bits))]) jb dX0_read_79 3 rfl (by decide) rfl ?_
            refine j_goto (tgt := 35) jb dX0_read_82 (by decide) ?_
            refine j_norm (lv' := [(0, .ref h0), (1, .int (iI bits)), (2, .int (iI ((2 * n) + (bitAt B p)))), (3, .int (iI (i + 1)))]) (st' := []) (ws' := [(h0, oX0 h1 len fa2_23 (p + 1)), (h1, aI x.g 2400 B)]) [2, 3, 1, 0] [0, 1] rfl rfl (by decide) rfl ?_
            exact ih35 ((2 * n) + (bitAt B p)) (i + 1) (p + 1) ⟨by omega, by omega, by omega, by rw [hi3]; exact num_step hi1 hi4⟩ (by omega)
      refine j_norm (lv' := [(0, .ref h0), (1, .int (iI bits)), (2, .int (iI 0)), (3, .int (iI 0))]) (st' := []) (ws' := [(h0, oX0 h1 len fa2_23 pos), (h1, aI x.g 2400 B)]) [2, 3, 1, 0] [0, 1] rfl rfl (by decide) rfl ?_
      exact L35 _ 0 0 pos ⟨by decide, hb.1, by omega, rfl⟩ (Nat.lt_succ_self _)
    · skip
      refine j_iconst jb dX0_read_29 ?_
      refine j_norm (lv' := []) (st' := [.int (iI 0)]) (ws' := [(h0, oX0 h1 len fa2_23 pos), (h1, aI x.g 2400 B)]) [] [0, 1] rfl rfl (by decide) rfl ?_
      exact j_iret jb jr dX0_read_30 ⟨_, _, _, rfl, rfl, ⟨fun h => by unfold fltIf at h23; split at h23 <;> omega, fun h => ⟨by unfold fltIf at h23; split at h23 <;> split <;> omega, rfl, rfl⟩⟩⟩
  refine j_icmp_le (tgt := 21) jb dX0_read_14 (by decide) (by omega) (by omega) (fun c_14 => ?_) (fun c_14 => ?_)
  · skip
    refine j_iconst jb dX0_read_21 ?_
    refine j_norm (lv' := [(0, .ref h0), (1, .int (iI bits))]) (st' := [.int (iI 0), .ref h0]) (ws' := [(h0, oX0 h1 len fa pos), (h1, aI x.g 2400 B)]) [0, 1] [0, 1] rfl rfl (by decide) rfl ?_
    exact J22 0 (by omega)
  · skip
    refine j_iconst jb dX0_read_17 ?_
    refine j_goto (tgt := 22) jb dX0_read_18 (by decide) ?_
    refine j_norm (lv' := [(0, .ref h0), (1, .int (iI bits))]) (st' := [.int (iI 1), .ref h0]) (ws' := [(h0, oX0 h1 len fa pos), (h1, aI x.g 2400 B)]) [0, 1] [0, 1] rfl rfl (by decide) rfl ?_
    exact J22 1 (by omega)

set_option maxHeartbeats 4000000 in
set_option maxRecDepth 100000 in
theorem C_X0_readSigned (l : Launch) (g : GG) (h0 h1 : Nat) (B : Int → Int) (len fa pos : Int) (bits : Int) (hB : isBytes B) (hl : 0 ≤ len ∧ len ≤ 2400) (hf : inR fa) (hb : 0 ≤ bits ∧ bits ≤ 31) (hp : 0 ≤ pos ∧ pos ≤ 8 * len) : Ctr l g yX0_readSigned cX0_readSigned 2 (some .int) 2 60 0 0 [.ref h0, .int (iI bits)] [(h0, oX0 h1 len fa pos), (h1, aI g 2400 B)] (fun vv ww => ∃ (r fa2 pos2 : Int), vv = some (.int (iI r)) ∧ ww = [(h0, oX0 h1 len fa2 pos2), (h1, aI g 2400 B)] ∧ rdRel B len fa pos bits r fa2 pos2 (sgn (num B pos bits.toNat) bits)) := by
  refine Ctr.of [(0, .ref h0), (1, .int (iI bits))] (by decide) (Nat.le_of_ble_eq_true rfl) rfl ?_
  intro x hxl hxg jb jr hin
  subst hxl; subst hxg
  refine j_iload_n jb dX0_readSigned_0 1 rfl ?_
  refine j_if_ne (tgt := 8) jb dX0_readSigned_1 (by decide) (by omega) (fun c_1 => ?_) (fun c_1 => ?_)
  · skip
    refine j_aload_n jb dX0_readSigned_8 0 rfl ?_
    refine j_iload_n jb dX0_readSigned_9 1 rfl ?_
    refine j_callV (wr := []) jb k_X0_read i_X0_read s_X0_read l_X0_37 (C_X0_read x.l x.g h0 h1 B len fa pos bits hB (by omega) (by omega) (by omega) (by omega)) 0 2 rfl rfl rfl [0, 1] [] (by decide) rfl rfl (by decide) (by decide) rfl rfl (Nat.le_of_ble_eq_true rfl) (by decide) dX0_readSigned_10 (fun v w hp => ?_)
    obtain ⟨r1, fa1, pos1, rfl, rfl, h10⟩ := hp
    refine j_norm (lv' := [(0, .ref h0), (1, .int (iI bits))]) (st' := [.int (iI r1)]) (ws' := [(h0, oX0 h1 len fa1 pos1), (h1, aI x.g 2400 B)]) [0, 1] [0, 1] rfl rfl (by decide) rfl ?_
    refine j_iload_n jb dX0_readSigned_13 1 rfl ?_
    refine j_callSN (wr := [(h0, oX0 h1 len fa1 pos1), (h1, aI x.g 2400 B)]) jb k_X11_signed t_X11_signed n_X0_41 (C_X11_signed x.l x.g r1 bits (by omega)) [] [0, 1] (by decide) rfl rfl (by decide) (by decide) rfl rfl (Nat.le_of_ble_eq_true rfl) (by decide) dX0_readSigned_14 (fun v w hp => ?_)
    obtain ⟨rfl, rfl⟩ := hp
    refine j_norm (lv' := [(0, .ref h0), (1, .int (iI bits))]) (st' := [.int (iI (sgn r1 bits))]) (ws' := [(h0, oX0 h1 len fa1 pos1), (h1, aI x.g 2400 B)]) [0, 1] [0, 1] rfl rfl (by decide) rfl ?_
    refine j_norm (lv' := []) (st' := [.int (iI (sgn r1 bits))]) (ws' := [(h0, oX0 h1 len fa1 pos1), (h1, aI x.g 2400 B)]) [] [0, 1] rfl rfl (by decide) rfl ?_
    exact j_iret jb jr dX0_readSigned_17 ⟨_, _, _, rfl, rfl, (by first | (have z : bits = 0 := by omega); exact ⟨fun h => ⟨h.1, by omega, by rw [z]; rfl⟩, fun h => ⟨by rw [if_neg (by omega)], rfl, rfl⟩⟩ | exact ⟨fun h => ⟨(h10.1 h).1, (h10.1 h).2.1, by rw [(h10.1 h).2.2]⟩, fun h => ⟨(h10.2 h).1, (h10.2 h).2.1, by rw [(h10.2 h).2.2]; exact sgn_0 _⟩⟩)⟩
  · skip
    refine j_iconst jb dX0_readSigned_4 ?_
    refine j_goto (tgt := 17) jb dX0_readSigned_5 (by decide) ?_
    refine j_norm (lv' := []) (st' := [.int (iI 0)]) (ws' := [(h0, oX0 h1 len fa pos), (h1, aI x.g 2400 B)]) [] [0, 1] rfl rfl (by decide) rfl ?_
    exact j_iret jb jr dX0_readSigned_17 ⟨_, _, _, rfl, rfl, (by first | (have z : bits = 0 := by omega); exact ⟨fun h => ⟨h.1, by omega, by rw [z]; rfl⟩, fun h => ⟨by rw [if_neg (by omega)], rfl, rfl⟩⟩ | exact ⟨fun h => ⟨(h10.1 h).1, (h10.1 h).2.1, by rw [(h10.1 h).2.2]⟩, fun h => ⟨(h10.2 h).1, (h10.2 h).2.1, by rw [(h10.2 h).2.2]; exact sgn_0 _⟩⟩)⟩

set_option maxHeartbeats 4000000 in
set_option maxRecDepth 100000 in
theorem C_X0_readFolded (l : Launch) (g : GG) (h0 h1 : Nat) (B : Int → Int) (len fa pos : Int) (k : Int) (hB : isBytes B) (hl : 0 ≤ len ∧ len ≤ 2400) (hf : fa = 0) (hk : 0 ≤ k ∧ k ≤ 14) (hp : 0 ≤ pos ∧ pos ≤ 8 * len) : Ctr l g yX0_readFolded cX0_readFolded 4 (some .int) 2 60 0 0 [.ref h0, .int (iI k)] [(h0, oX0 h1 len fa pos), (h1, aI g 2400 B)] (fun vv ww => ∃ (r fa2 pos2 : Int), vv = some (.int (iI r)) ∧ ww = [(h0, oX0 h1 len fa2 pos2), (h1, aI g 2400 B)] ∧ (fa2 = (rfold B len k pos).1 ∧ (fa2 = 0 → r = (rfold B len k pos).2.1 ∧ pos2 = (rfold B len k pos).2.2)) ∧ (-16777216 ≤ r ∧ r ≤ 16777216) ∧ 0 ≤ pos2 ∧ pos2 ≤ 8 * len) := by
  refine Ctr.of [(0, .ref h0), (1, .int (iI k))] (by decide) (Nat.le_of_ble_eq_true rfl) rfl ?_
  intro x hxl hxg jb jr hin
  subst hxl; subst hxg
  have q1 := pw_pos (24 - k)
  have q2 : (2 : Int) ^ (24 - k).toNat ≤ 16777216 := by have := pw_le (k := 24 - k) 24 (by omega); simpa using this
  have q3 := pw_pos k
  refine j_iconst jb dX0_readFolded_0 ?_
  refine j_bipush jb dX0_readFolded_1 (by decide) ?_
  refine j_iload_n jb dX0_readFolded_3 1 rfl ?_
  refine j_isub jb dX0_readFolded_4 ?_
  refine j_ishl jb dX0_readFolded_5 (by omega) ?_
  refine j_topi (2 ^ (24 - k).toNat) (Int.one_mul _) ?_
  refine j_istore_n (lv' := [(2, .int (iI (2 ^ (24 - k).toNat))), (0, .ref h0), (1, .int (iI k))]) jb dX0_readFolded_6 rfl (by decide) rfl ?_
  refine j_iconst jb dX0_readFolded_7 ?_
  refine j_istore_n (lv' := [(3, .int (iI 0)), (2, .int (iI (2 ^ (24 - k).toNat))), (0, .ref h0), (1, .int (iI k))]) jb dX0_readFolded_8 rfl (by decide) rfl ?_
  have L9 : ∀ (fu : Nat) (o f1 p : Int), (0 ≤ o ∧ o ≤ 2 ^ (24 - k).toNat ∧ p = pos + o ∧ f1 = 0 ∧ p ≤ 8 * len ∧ frun B len (2 ^ (24 - k).toNat) pos = frun B len ((2 ^ (24 - k).toNat : Int) - o).toNat p) → (2 ^ (24 - k).toNat - o).toNat < fu → JW x 0 0 9 [(0, .ref h0), (1, .int (iI k)), (2, .int (iI (2 ^ (24 - k).toNat))), (3, .int (iI o))] [] [(h0, oX0 h1 len f1 p), (h1, aI x.g 2400 B)] := by
    intro fu
    induction fu with
    | zero => intro o f1 p _ hm; exact absurd hm (by omega)
    | succ fu ih =>
      intro o f1 p ⟨hi1, hi2, hi3, hi4, hi5, hi6⟩ hm9
      have ih9 := ih
      clear ih
      refine j_iload_n jb dX0_readFolded_9 3 rfl ?_
      refine j_iload_n jb dX0_readFolded_10 2 rfl ?_
      refine j_icmp_ge (tgt := 41) jb dX0_readFolded_11 (by decide) (by omega) (by omega) (fun c_11 => ?_) (fun c_11 => ?_)
      · skip
        refine j_aload_n jb dX0_readFolded_41 0 rfl ?_
        refine j_iconst jb dX0_readFolded_42 ?_
        refine j_bipush jb dX0_readFolded_43 (by decide) ?_
        refine j_callV (wr := [(h1, aI x.g 2400 B)]) jb k_X0_faultIf i_X0_faultIf s_X0_faultIf l_X0_33 (C_X0_faultIf x.l x.g h0 h1 len f1 p 1 8 (by omega) (by omega) (by omega)) 0 2 rfl rfl rfl [0] [1] (by decide) rfl rfl (by decide) (by decide) rfl rfl (Nat.le_of_ble_eq_true rfl) (by decide) dX0_readFolded_45 (fun v w hp => ?_)
        obtain ⟨fa4, rfl, rfl, h45⟩ := hp
        refine j_norm (lv' := [(0, .ref h0), (1, .int (iI k)), (2, .int (iI (2 ^ (24 - k).toNat))), (3, .int (iI o))]) (st' := [.int (iI (b2i (fa4 ≠ 0)))]) (ws' := [(h0, oX0 h1 len fa4 p), (h1, aI x.g 2400 B)]) [0, 1, 2, 3] [1, 0] rfl rfl (by decide) rfl ?_
        refine j_pop jb dX0_readFolded_48 rfl ?_
        refine j_iconst jb dX0_readFolded_49 ?_
        refine j_norm (lv' := []) (st' := [.int (iI 0)]) (ws' := [(h0, oX0 h1 len fa4 p), (h1, aI x.g 2400 B)]) [] [0, 1] rfl rfl (by decide) rfl ?_
        exact j_iret jb jr dX0_readFolded_50 ⟨_, _, _, rfl, rfl, (by have z := rfold_many hi6 (by omega); have y : fa4 = 8 := (by rw [h45, hi4]; try rfl); exact ⟨⟨by omega, fun h => by omega⟩, by omega, by omega, hi5⟩)⟩
      · skip
        refine j_aload_n jb dX0_readFolded_14 0 rfl ?_
        refine j_iconst jb dX0_readFolded_15 ?_
        refine j_callV (wr := []) jb k_X0_read i_X0_read s_X0_read l_X0_37 (C_X0_read x.l x.g h0 h1 B len f1 p 1 hB (by omega) (by omega) (by omega) (by omega)) 0 2 rfl rfl rfl [0, 1] [] (by decide) rfl rfl (by decide) (by decide) rfl rfl (Nat.le_of_ble_eq_true rfl) (by decide) dX0_readFolded_16 (fun v w hp => ?_)
        obtain ⟨r1, fa1, pos1, rfl, rfl, h16⟩ := hp
        refine j_norm (lv' := [(0, .ref h0), (1, .int (iI k)), (2, .int (iI (2 ^ (24 - k).toNat))), (3, .int (iI o))]) (st' := [.int (iI r1)]) (ws' := [(h0, oX0 h1 len fa1 pos1), (h1, aI x.g 2400 B)]) [0, 1, 2, 3] [0, 1] rfl rfl (by decide) rfl ?_
        refine j_if_ne (tgt := 35) jb dX0_readFolded_19 (by decide) (by have := rd_in (M := 2) h16 (num_in B p 1); omega) (fun c_19 => ?_) (fun c_19 => ?_)
        · skip
          refine j_iinc (lv' := [(3, .int (iI (o + 1))), (0, .ref h0), (1, .int (iI k)), (2, .int (iI (2 ^ (24 - k).toNat)))]) jb dX0_readFolded_35 3 rfl (by decide) rfl ?_
          refine j_goto (tgt := 9) jb dX0_readFolded_38 (by decide) ?_
          refine j_norm (lv' := [(0, .ref h0), (1, .int (iI k)), (2, .int (iI (2 ^ (24 - k).toNat))), (3, .int (iI (o + 1)))]) (st' := []) (ws' := [(h0, oX0 h1 len fa1 pos1), (h1, aI x.g 2400 B)]) [1, 2, 3, 0] [0, 1] rfl rfl (by decide) rfl ?_
          exact ih9 (o + 1) fa1 pos1 (by have w := rd_nz h16 c_19; rw [num_1] at w; exact ⟨by omega, by omega, by omega, by omega, by omega, by have z := frun_next hi6 (by omega) w.1.2 (by omega); rw [show (2 : Int) ^ (24 - k).toNat - o - 1 = 2 ^ (24 - k).toNat - (o + 1) by omega, show p + 1 = pos1 by omega] at z; exact z⟩) (by omega)
        · skip
          refine j_iload_n jb dX0_readFolded_22 3 rfl ?_
          refine j_iload_n jb dX0_readFolded_23 1 rfl ?_
          refine j_ishl jb dX0_readFolded_24 (by omega) ?_
          refine j_aload_n jb dX0_readFolded_25 0 rfl ?_
          refine j_iload_n jb dX0_readFolded_26 1 rfl ?_
          refine j_callV (wr := []) jb k_X0_read i_X0_read s_X0_read l_X0_37 (C_X0_read x.l x.g h0 h1 B len fa1 pos1 k hB (by omega) (by have := rd_fa h16; omega) (by omega) (rd_pos h16 (by decide) ⟨by omega, hi5⟩)) 0 2 rfl rfl rfl [0, 1] [] (by decide) rfl rfl (by decide) (by decide) rfl rfl (Nat.le_of_ble_eq_true rfl) (by decide) dX0_readFolded_27 (fun v w hp => ?_)
          obtain ⟨r2, fa2, pos2, rfl, rfl, h27⟩ := hp
          refine j_norm (lv' := [(0, .ref h0), (1, .int (iI k)), (2, .int (iI (2 ^ (24 - k).toNat))), (3, .int (iI o))]) (st' := [.int (iI r2), .int (iI (o * 2 ^ k.toNat))]) (ws' := [(h0, oX0 h1 len fa2 pos2), (h1, aI x.g 2400 B)]) [0, 1, 2, 3] [0, 1] rfl rfl (by decide) rfl ?_
          have hu := ones_in hi1 (by omega) hk (rd_in h27 (num_in B pos1 k.toNat))
          refine j_iadd jb dX0_readFolded_30 ?_
          refine j_callSN (wr := [(h0, oX0 h1 len fa2 pos2), (h1, aI x.g 2400 B)]) jb k_X11_unfold t_X11_unfold n_X0_45 (C_X11_unfold x.l x.g ((o * 2 ^ k.toNat) + r2) (by omega)) [] [0, 1] (by decide) rfl rfl (by decide) (by decide) rfl rfl (Nat.le_of_ble_eq_true rfl) (by decide) dX0_readFolded_31 (fun v w hp => ?_)
          obtain ⟨r3, rfl, rfl, h31⟩ := hp
          refine j_norm (lv' := [(0, .ref h0), (1, .int (iI k)), (2, .int (iI (2 ^ (24 - k).toNat))), (3, .int (iI o))]) (st' := [.int (iI r3)]) (ws' := [(h0, oX0 h1 len fa2 pos2), (h1, aI x.g 2400 B)]) [0, 1, 2, 3] [0, 1] rfl rfl (by decide) rfl ?_
          refine j_norm (lv' := []) (st' := [.int (iI r3)]) (ws' := [(h0, oX0 h1 len fa2 pos2), (h1, aI x.g 2400 B)]) [] [0, 1] rfl rfl (by decide) rfl ?_
          exact j_iret jb jr dX0_readFolded_34 ⟨_, _, _, rfl, rfl, (by have z := rfold_end hi3 hi4 hi6 (by omega) h16 c_19 h27; rw [h31]; exact ⟨⟨z.1, fun h => z.2 h⟩, unf_in hu, rd_pos h27 hk.1 (rd_pos h16 (by decide) ⟨by omega, hi5⟩)⟩)⟩
  refine j_norm (lv' := [(0, .ref h0), (1, .int (iI k)), (2, .int (iI (2 ^ (24 - k).toNat))), (3, .int (iI 0))]) (st' := []) (ws' := [(h0, oX0 h1 len fa pos), (h1, aI x.g 2400 B)]) [2, 3, 1, 0] [0, 1] rfl rfl (by decide) rfl ?_
  exact L9 _ 0 fa pos ⟨by decide, by omega, by omega, hf, hp.2, frun_0 _ _ _ _⟩ (Nat.lt_succ_self _)

