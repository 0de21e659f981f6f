set_option maxHeartbeats 4000000 in
set_option maxRecDepth 100000 in
theorem C_X0_has (l : Launch) (g : GG) (h0 h1 : Nat) (len fa pos : Int) (i : Int) (hl : 0 ≤ len ∧ len ≤ 2400) (hi : inR i) : Ctr l g yX0_has cX0_has 2 (some .boolean) 0 0 0 0 [.ref h0, .int (iI i)] [(h0, oX0 h1 len fa pos)] (fun v w => v = some (.int (iI (b2i (0 ≤ i ∧ i < len)))) ∧ w = [(h0, oX0 h1 len fa pos)]) := by
  refine Ctr.of [(0, .ref h0), (1, .int (iI i))] (by decide) (Nat.le_of_ble_eq_true rfl) rfl ?_
  intro x hxl hxg B J hin
  subst hxl; subst hxg
  refine j_iload_n B dX0_has_0 1 rfl ?_
  refine j_if_lt (tgt := 16) B dX0_has_1 (by decide) (by omega) (fun c_1 => ?_) (fun c_1 => ?_)
  · skip
    refine j_iconst B dX0_has_16 ?_
    refine j_norm (lv' := []) (st' := [.int (iI 0)]) (ws' := [(h0, oX0 h1 len fa pos)]) [] [0] rfl rfl (by decide) rfl ?_
    exact j_zret B J dX0_has_17 rfl ⟨(vb0 (by omega)), rfl⟩
  · skip
    refine j_iload_n B dX0_has_4 1 rfl ?_
    refine j_aload_n B dX0_has_5 0 rfl ?_
    refine j_get B f_X0_15 dX0_has_6 0 rfl rfl ?_
    refine j_icmp_ge (tgt := 16) B dX0_has_9 (by decide) (by omega) (by omega) (fun c_9 => ?_) (fun c_9 => ?_)
    · skip
      refine j_iconst B dX0_has_16 ?_
      refine j_norm (lv' := []) (st' := [.int (iI 0)]) (ws' := [(h0, oX0 h1 len fa pos)]) [] [0] rfl rfl (by decide) rfl ?_
      exact j_zret B J dX0_has_17 rfl ⟨(vb0 (by omega)), rfl⟩
    · skip
      refine j_iconst B dX0_has_12 ?_
      refine j_goto (tgt := 17) B dX0_has_13 (by decide) ?_
      refine j_norm (lv' := []) (st' := [.int (iI 1)]) (ws' := [(h0, oX0 h1 len fa pos)]) [] [0] rfl rfl (by decide) rfl ?_
      exact j_zret B J dX0_has_17 rfl ⟨(vb1 (by omega)), rfl⟩

set_option maxHeartbeats 4000000 in
set_option maxRecDepth 100000 in
theorem C_X0_begin (l : Launch) (g : GG) (h0 h1 : Nat) (len fa pos : Int) (i : Int)  : Ctr l g yX0_begin cX0_begin 2 none 0 0 0 0 [.ref h0, .int (iI i)] [(h0, oX0 h1 len fa pos)] (fun v w => v = none ∧ w = [(h0, oX0 h1 len 0 (8 * i))]) := by
  refine Ctr.of [(0, .ref h0), (1, .int (iI i))] (by decide) (Nat.le_of_ble_eq_true rfl) rfl ?_
  intro x hxl hxg B J hin
  subst hxl; subst hxg
  refine j_aload_n B dX0_begin_0 0 rfl ?_
  refine j_bipush B dX0_begin_1 (by decide) ?_
  refine j_iload_n B dX0_begin_3 1 rfl ?_
  refine j_imul B dX0_begin_4 ?_
  refine j_put (ws' := [(h0, oX0 h1 len fa (8 * i))]) B f_X0_19 w_X0_3 rfl dX0_begin_5 0 rfl rfl rfl (Nat.le_of_ble_eq_true rfl) rfl ?_
  refine j_aload_n B dX0_begin_8 0 rfl ?_
  refine j_iconst B dX0_begin_9 ?_
  refine j_put (ws' := [(h0, oX0 h1 len 0 (8 * i))]) B f_X0_22 w_X0_2 rfl dX0_begin_10 0 rfl rfl rfl (Nat.le_of_ble_eq_true rfl) rfl ?_
  refine j_norm (lv' := []) (st' := []) (ws' := [(h0, oX0 h1 len 0 (8 * i))]) [] [0] rfl rfl (by decide) rfl ?_
  exact j_vret B J dX0_begin_13 ⟨rfl, rfl⟩

set_option maxHeartbeats 4000000 in
set_option maxRecDepth 100000 in
theorem C_X0_placeNow (l : Launch) (g : GG) (h0 h1 : Nat) (len fa pos : Int) (hp : inR pos) : Ctr l g yX0_placeNow cX0_placeNow 1 (some .int) 0 0 0 0 [.ref h0] [(h0, oX0 h1 len fa pos)] (fun v w => v = some (.int (iI (pos / 8))) ∧ w = [(h0, oX0 h1 len fa pos)]) := by
  refine Ctr.of [(0, .ref h0)] (by decide) (Nat.le_of_ble_eq_true rfl) rfl ?_
  intro x hxl hxg B J hin
  subst hxl; subst hxg
  refine j_aload_n B dX0_placeNow_0 0 rfl ?_
  refine j_get B f_X0_19 dX0_placeNow_1 0 rfl rfl ?_
  refine j_iconst B dX0_placeNow_4 ?_
  refine j_ishr B dX0_placeNow_5 (by omega) (by omega) ?_
  refine j_topi (pos / 8) (p3 pos) ?_
  refine j_norm (lv' := []) (st' := [.int (iI (pos / 8))]) (ws' := [(h0, oX0 h1 len fa pos)]) [] [0] rfl rfl (by decide) rfl ?_
  exact j_iret B J dX0_placeNow_6 ⟨rfl, rfl⟩

set_option maxHeartbeats 4000000 in
set_option maxRecDepth 100000 in
theorem C_X0_bitsToByte (l : Launch) (g : GG) (h0 h1 : Nat) (len fa pos : Int)  : Ctr l g yX0_bitsToByte cX0_bitsToByte 1 (some .int) 0 0 0 0 [.ref h0] [(h0, oX0 h1 len fa pos)] (fun v w => v = some (.int (iI (-pos % 8))) ∧ w = [(h0, oX0 h1 len fa pos)]) := by
  refine Ctr.of [(0, .ref h0)] (by decide) (Nat.le_of_ble_eq_true rfl) rfl ?_
  intro x hxl hxg B J hin
  subst hxl; subst hxg
  refine j_aload_n B dX0_bitsToByte_0 0 rfl ?_
  refine j_get B f_X0_19 dX0_bitsToByte_1 0 rfl rfl ?_
  refine j_ineg B dX0_bitsToByte_4 ?_
  refine j_bipush B dX0_bitsToByte_5 (by decide) ?_
  refine j_iand B dX0_bitsToByte_7 ?_
  refine j_topi (-pos % 8) (zAnd_7 _) ?_
  refine j_norm (lv' := []) (st' := [.int (iI (-pos % 8))]) (ws' := [(h0, oX0 h1 len fa pos)]) [] [0] rfl rfl (by decide) rfl ?_
  exact j_iret B J dX0_bitsToByte_8 ⟨rfl, rfl⟩

set_option maxHeartbeats 4000000 in
set_option maxRecDepth 100000 in
theorem C_X0_faultIf (l : Launch) (g : GG) (h0 h1 : Nat) (len fa pos : Int) (wr which : Int) (hw : inR wr) (hf : inR fa) (hc : inR which) : Ctr l g yX0_faultIf cX0_faultIf 3 (some .boolean) 0 0 0 0 [.ref h0, .int (iI wr), .int (iI which)] [(h0, oX0 h1 len fa pos)] (fun v w => ∃ (fa2 : Int), v = some (.int (iI (b2i (fa2 ≠ 0)))) ∧ w = [(h0, oX0 h1 len fa2 pos)] ∧ fa2 = fltIf wr fa which) := by
  refine Ctr.of [(0, .ref h0), (1, .int (iI wr)), (2, .int (iI which))] (by decide) (Nat.le_of_ble_eq_true rfl) rfl ?_
  intro x hxl hxg B J hin
  subst hxl; subst hxg
  refine j_iload_n B dX0_faultIf_0 1 rfl ?_
  refine j_if_eq (tgt := 16) B dX0_faultIf_1 (by decide) (by omega) (fun c_1 => ?_) (fun c_1 => ?_)
  · skip
    refine j_aload_n B dX0_faultIf_16 0 rfl ?_
    refine j_get B f_X0_22 dX0_faultIf_17 0 rfl rfl ?_
    refine j_if_eq (tgt := 27) B dX0_faultIf_20 (by decide) (by omega) (fun c_20 => ?_) (fun c_20 => ?_)
    · skip
      refine j_iconst B dX0_faultIf_27 ?_
      refine j_norm (lv' := []) (st' := [.int (iI 0)]) (ws' := [(h0, oX0 h1 len fa pos)]) [] [0] rfl rfl (by decide) rfl ?_
      exact j_zret B J dX0_faultIf_28 rfl ⟨_, (vb0 (by omega)), rfl, (by unfold fltIf; first | (rw [if_pos (by omega)]; done) | (rw [if_neg (by omega)]; done))⟩
    · skip
      refine j_iconst B dX0_faultIf_23 ?_
      refine j_goto (tgt := 28) B dX0_faultIf_24 (by decide) ?_
      refine j_norm (lv' := []) (st' := [.int (iI 1)]) (ws' := [(h0, oX0 h1 len fa pos)]) [] [0] rfl rfl (by decide) rfl ?_
      exact j_zret B J dX0_faultIf_28 rfl ⟨_, (vb1 (by omega)), rfl, (by unfold fltIf; first | (rw [if_pos (by omega)]; done) | (rw [if_neg (by omega)]; done))⟩
  · skip
    refine j_aload_n B dX0_faultIf_4 0 rfl ?_
    refine j_get B f_X0_22 dX0_faultIf_5 0 rfl rfl ?_
    refine j_if_ne (tgt := 16) B dX0_faultIf_8 (by decide) (by omega) (fun c_8 => ?_) (fun c_8 => ?_)
    · skip
      refine j_aload_n B dX0_faultIf_16 0 rfl ?_
      refine j_get B f_X0_22 dX0_faultIf_17 0 rfl rfl ?_
      refine j_if_eq (tgt := 27) B dX0_faultIf_20 (by decide) (by omega) (fun c_20 => ?_) (fun c_20 => ?_)
      · skip
        refine j_iconst B dX0_faultIf_27 ?_
        refine j_norm (lv' := []) (st' := [.int (iI 0)]) (ws' := [(h0, oX0 h1 len fa pos)]) [] [0] rfl rfl (by decide) rfl ?_
        exact j_zret B J dX0_faultIf_28 rfl ⟨_, (vb0 (by omega)), rfl, (by unfold fltIf; first | (rw [if_pos (by omega)]; done) | (rw [if_neg (by omega)]; done))⟩
      · skip
        refine j_iconst B dX0_faultIf_23 ?_
        refine j_goto (tgt := 28) B dX0_faultIf_24 (by decide) ?_
        refine j_norm (lv' := []) (st' := [.int (iI 1)]) (ws' := [(h0, oX0 h1 len fa pos)]) [] [0] rfl rfl (by decide) rfl ?_
        exact j_zret B J dX0_faultIf_28 rfl ⟨_, (vb1 (by omega)), rfl, (by unfold fltIf; first | (rw [if_pos (by omega)]; done) | (rw [if_neg (by omega)]; done))⟩
    · skip
      refine j_aload_n B dX0_faultIf_11 0 rfl ?_
      refine j_iload_n B dX0_faultIf_12 2 rfl ?_
      refine j_put (ws' := [(h0, oX0 h1 len which pos)]) B f_X0_22 w_X0_2 rfl dX0_faultIf_13 0 rfl rfl rfl (Nat.le_of_ble_eq_true rfl) rfl ?_
      refine j_aload_n B dX0_faultIf_16 0 rfl ?_
      refine j_get B f_X0_22 dX0_faultIf_17 0 rfl rfl ?_
      refine j_if_eq (tgt := 27) B dX0_faultIf_20 (by decide) (by omega) (fun c_20 => ?_) (fun c_20 => ?_)
      · skip
        refine j_iconst B dX0_faultIf_27 ?_
        refine j_norm (lv' := []) (st' := [.int (iI 0)]) (ws' := [(h0, oX0 h1 len which pos)]) [] [0] rfl rfl (by decide) rfl ?_
        exact j_zret B J dX0_faultIf_28 rfl ⟨_, (vb0 (by omega)), rfl, (by unfold fltIf; first | (rw [if_pos (by omega)]; done) | (rw [if_neg (by omega)]; done))⟩
      · skip
        refine j_iconst B dX0_faultIf_23 ?_
        refine j_goto (tgt := 28) B dX0_faultIf_24 (by decide) ?_
        refine j_norm (lv' := []) (st' := [.int (iI 1)]) (ws' := [(h0, oX0 h1 len which pos)]) [] [0] rfl rfl (by decide) rfl ?_
        exact j_zret B J dX0_faultIf_28 rfl ⟨_, (vb1 (by omega)), rfl, (by unfold fltIf; first | (rw [if_pos (by omega)]; done) | (rw [if_neg (by omega)]; done))⟩

