set_option maxHeartbeats 4000000 in
set_option maxRecDepth 100000 in
theorem C_X11_isChannel (l : Launch) (g : GG) (ch : Int) (h : inR ch) : Ctr l g yX11_isChannel cX11_isChannel 1 (some .boolean) 0 0 0 0 [.int (iI ch)] [] (fun vv ww => vv = some (.int (iI (b2i (0 ≤ ch ∧ ch < 2)))) ∧ ww = []) := by
  refine Ctr.of [(0, .int (iI ch))] (by decide) (Nat.le_of_ble_eq_true rfl) rfl ?_
  intro x hxl hxg jb jr hin
  subst hxl; subst hxg
  refine j_iload_n jb dX11_isChannel_0 0 rfl ?_
  refine j_if_lt (tgt := 13) jb dX11_isChannel_1 (by decide) (by omega) (fun c_1 => ?_) (fun c_1 => ?_)
  · skip
    refine j_iconst jb dX11_isChannel_13 ?_
    refine j_norm (lv' := []) (st' := [.int (iI 0)]) (ws' := []) [] [] rfl rfl (by decide) rfl ?_
    exact j_zret jb jr dX11_isChannel_14 rfl ⟨(vb0 (by omega)), rfl⟩
  · skip
    refine j_iload_n jb dX11_isChannel_4 0 rfl ?_
    refine j_iconst jb dX11_isChannel_5 ?_
    refine j_icmp_ge (tgt := 13) jb dX11_isChannel_6 (by decide) (by omega) (by omega) (fun c_6 => ?_) (fun c_6 => ?_)
    · skip
      refine j_iconst jb dX11_isChannel_13 ?_
      refine j_norm (lv' := []) (st' := [.int (iI 0)]) (ws' := []) [] [] rfl rfl (by decide) rfl ?_
      exact j_zret jb jr dX11_isChannel_14 rfl ⟨(vb0 (by omega)), rfl⟩
    · skip
      refine j_iconst jb dX11_isChannel_9 ?_
      refine j_goto (tgt := 14) jb dX11_isChannel_10 (by decide) ?_
      refine j_norm (lv' := []) (st' := [.int (iI 1)]) (ws' := []) [] [] rfl rfl (by decide) rfl ?_
      exact j_zret jb jr dX11_isChannel_14 rfl ⟨(vb1 (by omega)), rfl⟩

set_option maxHeartbeats 4000000 in
set_option maxRecDepth 100000 in
theorem C_X11_isByte (l : Launch) (g : GG) (b : Int) (h : inR b) : Ctr l g yX11_isByte cX11_isByte 1 (some .boolean) 0 0 0 0 [.int (iI b)] [] (fun vv ww => vv = some (.int (iI (b2i (0 ≤ b ∧ b ≤ 255)))) ∧ ww = []) := by
  refine Ctr.of [(0, .int (iI b))] (by decide) (Nat.le_of_ble_eq_true rfl) rfl ?_
  intro x hxl hxg jb jr hin
  subst hxl; subst hxg
  refine j_iload_n jb dX11_isByte_0 0 rfl ?_
  refine j_if_lt (tgt := 15) jb dX11_isByte_1 (by decide) (by omega) (fun c_1 => ?_) (fun c_1 => ?_)
  · skip
    refine j_iconst jb dX11_isByte_15 ?_
    refine j_norm (lv' := []) (st' := [.int (iI 0)]) (ws' := []) [] [] rfl rfl (by decide) rfl ?_
    exact j_zret jb jr dX11_isByte_16 rfl ⟨(vb0 (by omega)), rfl⟩
  · skip
    refine j_iload_n jb dX11_isByte_4 0 rfl ?_
    refine j_sipush jb dX11_isByte_5 (by decide) ?_
    refine j_icmp_gt (tgt := 15) jb dX11_isByte_8 (by decide) (by omega) (by omega) (fun c_8 => ?_) (fun c_8 => ?_)
    · skip
      refine j_iconst jb dX11_isByte_15 ?_
      refine j_norm (lv' := []) (st' := [.int (iI 0)]) (ws' := []) [] [] rfl rfl (by decide) rfl ?_
      exact j_zret jb jr dX11_isByte_16 rfl ⟨(vb0 (by omega)), rfl⟩
    · skip
      refine j_iconst jb dX11_isByte_11 ?_
      refine j_goto (tgt := 16) jb dX11_isByte_12 (by decide) ?_
      refine j_norm (lv' := []) (st' := [.int (iI 1)]) (ws' := []) [] [] rfl rfl (by decide) rfl ?_
      exact j_zret jb jr dX11_isByte_16 rfl ⟨(vb1 (by omega)), rfl⟩

set_option maxHeartbeats 4000000 in
set_option maxRecDepth 100000 in
theorem C_X11_isPartOf (l : Launch) (g : GG) (fs wh : Int) (h : inR wh) (h2 : 0 ≤ fs ∧ fs ≤ 100) : Ctr l g yX11_isPartOf cX11_isPartOf 2 (some .boolean) 0 0 0 0 [.int (iI fs), .int (iI wh)] [] (fun vv ww => vv = some (.int (iI (b2i (fs ≤ wh ∧ wh < fs + 16)))) ∧ ww = []) := by
  refine Ctr.of [(0, .int (iI fs)), (1, .int (iI wh))] (by decide) (Nat.le_of_ble_eq_true rfl) rfl ?_
  intro x hxl hxg jb jr hin
  subst hxl; subst hxg
  refine j_iload_n jb dX11_isPartOf_0 1 rfl ?_
  refine j_iload_n jb dX11_isPartOf_1 0 rfl ?_
  refine j_icmp_lt (tgt := 17) jb dX11_isPartOf_2 (by decide) (by omega) (by omega) (fun c_2 => ?_) (fun c_2 => ?_)
  · skip
    refine j_iconst jb dX11_isPartOf_17 ?_
    refine j_norm (lv' := []) (st' := [.int (iI 0)]) (ws' := []) [] [] rfl rfl (by decide) rfl ?_
    exact j_zret jb jr dX11_isPartOf_18 rfl ⟨(vb0 (by omega)), rfl⟩
  · skip
    refine j_iload_n jb dX11_isPartOf_5 1 rfl ?_
    refine j_iload_n jb dX11_isPartOf_6 0 rfl ?_
    refine j_bipush jb dX11_isPartOf_7 (by decide) ?_
    refine j_iadd jb dX11_isPartOf_9 ?_
    refine j_icmp_ge (tgt := 17) jb dX11_isPartOf_10 (by decide) (by omega) (by omega) (fun c_10 => ?_) (fun c_10 => ?_)
    · skip
      refine j_iconst jb dX11_isPartOf_17 ?_
      refine j_norm (lv' := []) (st' := [.int (iI 0)]) (ws' := []) [] [] rfl rfl (by decide) rfl ?_
      exact j_zret jb jr dX11_isPartOf_18 rfl ⟨(vb0 (by omega)), rfl⟩
    · skip
      refine j_iconst jb dX11_isPartOf_13 ?_
      refine j_goto (tgt := 18) jb dX11_isPartOf_14 (by decide) ?_
      refine j_norm (lv' := []) (st' := [.int (iI 1)]) (ws' := []) [] [] rfl rfl (by decide) rfl ?_
      exact j_zret jb jr dX11_isPartOf_18 rfl ⟨(vb1 (by omega)), rfl⟩

set_option maxHeartbeats 4000000 in
set_option maxRecDepth 100000 in
theorem C_X11_fits (l : Launch) (g : GG) (v b : Int) (h : inR v) (h2 : 1 ≤ b ∧ b ≤ 31) : Ctr l g yX11_fits cX11_fits 3 (some .boolean) 0 0 0 0 [.int (iI v), .int (iI b)] [] (fun vv ww => vv = some (.int (iI (b2i (fit v b)))) ∧ ww = []) := by
  refine Ctr.of [(0, .int (iI v)), (1, .int (iI b))] (by decide) (Nat.le_of_ble_eq_true rfl) rfl ?_
  intro x hxl hxg jb jr hin
  subst hxl; subst hxg
  have q1 := pw_30 (k := b - 1) (by omega)
  have q2 := pw_pos (b - 1)
  refine j_iconst jb dX11_fits_0 ?_
  refine j_iload_n jb dX11_fits_1 1 rfl ?_
  refine j_iconst jb dX11_fits_2 ?_
  refine j_isub jb dX11_fits_3 ?_
  refine j_ishl jb dX11_fits_4 (by omega) ?_
  refine j_istore_n (lv' := [(2, .int (iI (1 * 2 ^ (b - 1).toNat))), (0, .int (iI v)), (1, .int (iI b))]) jb dX11_fits_5 rfl (by decide) rfl ?_
  refine j_iload_n jb dX11_fits_6 1 rfl ?_
  refine j_iload_n jb dX11_fits_7 0 rfl ?_
  refine j_ineg jb dX11_fits_8 ?_
  refine j_icmp_lt (tgt := 21) jb dX11_fits_9 (by decide) (by omega) (by omega) (fun c_9 => ?_) (fun c_9 => ?_)
  · skip
    refine j_iconst jb dX11_fits_21 ?_
    refine j_norm (lv' := []) (st' := [.int (iI 0)]) (ws' := []) [] [] rfl rfl (by decide) rfl ?_
    exact j_zret jb jr dX11_fits_22 rfl ⟨(vb0 (by omega)), rfl⟩
  · skip
    refine j_iload_n jb dX11_fits_12 1 rfl ?_
    refine j_iload_n jb dX11_fits_13 0 rfl ?_
    refine j_icmp_ge (tgt := 21) jb dX11_fits_14 (by decide) (by omega) (by omega) (fun c_14 => ?_) (fun c_14 => ?_)
    · skip
      refine j_iconst jb dX11_fits_21 ?_
      refine j_norm (lv' := []) (st' := [.int (iI 0)]) (ws' := []) [] [] rfl rfl (by decide) rfl ?_
      exact j_zret jb jr dX11_fits_22 rfl ⟨(vb0 (by omega)), rfl⟩
    · skip
      refine j_iconst jb dX11_fits_17 ?_
      refine j_goto (tgt := 22) jb dX11_fits_18 (by decide) ?_
      refine j_norm (lv' := []) (st' := [.int (iI 1)]) (ws' := []) [] [] rfl rfl (by decide) rfl ?_
      exact j_zret jb jr dX11_fits_22 rfl ⟨(vb1 (by omega)), rfl⟩

set_option maxHeartbeats 4000000 in
set_option maxRecDepth 100000 in
theorem C_X11_bytesOf (l : Launch) (g : GG) (n : Int) (h : 0 ≤ n ∧ n ≤ 1000000) : Ctr l g yX11_bytesOf cX11_bytesOf 1 (some .int) 0 0 0 0 [.int (iI n)] [] (fun vv ww => vv = some (.int (iI ((n + 7) / 8 + 1))) ∧ ww = []) := by
  refine Ctr.of [(0, .int (iI n))] (by decide) (Nat.le_of_ble_eq_true rfl) rfl ?_
  intro x hxl hxg jb jr hin
  subst hxl; subst hxg
  refine j_iload_n jb dX11_bytesOf_0 0 rfl ?_
  refine j_bipush jb dX11_bytesOf_1 (by decide) ?_
  refine j_iadd jb dX11_bytesOf_3 ?_
  refine j_bipush jb dX11_bytesOf_4 (by decide) ?_
  refine j_idiv jb dX11_bytesOf_6 (by omega) ?_
  refine j_iconst jb dX11_bytesOf_7 ?_
  refine j_iadd jb dX11_bytesOf_8 ?_
  refine j_norm (lv' := []) (st' := [.int (iI (((n + 7) / 8) + 1))]) (ws' := []) [] [] rfl rfl (by decide) rfl ?_
  exact j_iret jb jr dX11_bytesOf_9 ⟨rfl, rfl⟩

set_option maxHeartbeats 4000000 in
set_option maxRecDepth 100000 in
theorem C_X11_bitsOfRow (l : Launch) (g : GG) (wh sb : Int) (h : inR wh) : Ctr l g yX11_bitsOfRow cX11_bitsOfRow 2 (some .int) 0 0 0 0 [.int (iI wh), .int (iI sb)] [] (fun vv ww => ∃ (r : Int), vv = some (.int (iI r)) ∧ ww = [] ∧ r = (if wh = 2 then sb + 1 else sb)) := by
  refine Ctr.of [(0, .int (iI wh)), (1, .int (iI sb))] (by decide) (Nat.le_of_ble_eq_true rfl) rfl ?_
  intro x hxl hxg jb jr hin
  subst hxl; subst hxg
  refine j_iload_n jb dX11_bitsOfRow_0 0 rfl ?_
  refine j_iconst jb dX11_bitsOfRow_1 ?_
  refine j_icmp_ne (tgt := 11) jb dX11_bitsOfRow_2 (by decide) (by omega) (by omega) (fun c_2 => ?_) (fun c_2 => ?_)
  · skip
    refine j_iload_n jb dX11_bitsOfRow_11 1 rfl ?_
    refine j_norm (lv' := []) (st' := [.int (iI sb)]) (ws' := []) [] [] rfl rfl (by decide) rfl ?_
    exact j_iret jb jr dX11_bitsOfRow_12 ⟨_, rfl, rfl, (by first | (rw [if_pos (by omega)]; done) | (rw [if_neg (by omega)]; done))⟩
  · skip
    refine j_iload_n jb dX11_bitsOfRow_5 1 rfl ?_
    refine j_iconst jb dX11_bitsOfRow_6 ?_
    refine j_iadd jb dX11_bitsOfRow_7 ?_
    refine j_goto (tgt := 12) jb dX11_bitsOfRow_8 (by decide) ?_
    refine j_norm (lv' := []) (st' := [.int (iI (sb + 1))]) (ws' := []) [] [] rfl rfl (by decide) rfl ?_
    exact j_iret jb jr dX11_bitsOfRow_12 ⟨_, rfl, rfl, (by first | (rw [if_pos (by omega)]; done) | (rw [if_neg (by omega)]; done))⟩

set_option maxHeartbeats 4000000 in
set_option maxRecDepth 100000 in
theorem C_X11_mayBeP (l : Launch) (g : GG) (p n o : Int) (h : 0 ≤ p ∧ p ≤ 7) (h2 : 0 ≤ n ∧ n ≤ 1000) (h3 : 0 ≤ o ∧ o ≤ 1000) : Ctr l g yX11_mayBeP cX11_mayBeP 3 (some .boolean) 0 0 0 0 [.int (iI p), .int (iI n), .int (iI o)] [] (fun vv ww => vv = some (.int (iI (b2i (p ≤ 4 ∧ n % 2 ^ p.toNat = 0 ∧ o ≤ n / 2 ^ p.toNat)))) ∧ ww = []) := by
  refine Ctr.of [(0, .int (iI p)), (1, .int (iI n)), (2, .int (iI o))] (by decide) (Nat.le_of_ble_eq_true rfl) rfl ?_
  intro x hxl hxg jb jr hin
  subst hxl; subst hxg
  have q2 := pw_pos p
  have q3 := ediv_in (a := n) p.toNat (M := 1001) (by decide) (by omega) (by omega)
  have q4 := Int.emod_nonneg n (show (2 : Int) ^ p.toNat ≠ 0 by omega)
  have q5 := Int.emod_lt_of_pos n q2
  have q6 := pw_30 (k := p) (by omega)
  refine j_iload_n jb dX11_mayBeP_0 0 rfl ?_
  refine j_iconst jb dX11_mayBeP_1 ?_
  refine j_icmp_gt (tgt := 26) jb dX11_mayBeP_2 (by decide) (by omega) (by omega) (fun c_2 => ?_) (fun c_2 => ?_)
  · skip
    refine j_iconst jb dX11_mayBeP_26 ?_
    refine j_norm (lv' := []) (st' := [.int (iI 0)]) (ws' := []) [] [] rfl rfl (by decide) rfl ?_
    exact j_zret jb jr dX11_mayBeP_27 rfl ⟨(vb0 (by omega)), rfl⟩
  · skip
    refine j_iload_n jb dX11_mayBeP_5 1 rfl ?_
    refine j_iconst jb dX11_mayBeP_6 ?_
    refine j_iload_n jb dX11_mayBeP_7 0 rfl ?_
    refine j_ishl jb dX11_mayBeP_8 (by omega) ?_
    refine j_iconst jb dX11_mayBeP_9 ?_
    refine j_isub jb dX11_mayBeP_10 ?_
    refine j_iand jb dX11_mayBeP_11 ?_
    refine j_topi (n % 2 ^ p.toNat) (zAnd_mask p.toNat (by omega) (by rw [Int.one_mul])) ?_
    refine j_if_ne (tgt := 26) jb dX11_mayBeP_12 (by decide) (by omega) (fun c_12 => ?_) (fun c_12 => ?_)
    · skip
      refine j_iconst jb dX11_mayBeP_26 ?_
      refine j_norm (lv' := []) (st' := [.int (iI 0)]) (ws' := []) [] [] rfl rfl (by decide) rfl ?_
      exact j_zret jb jr dX11_mayBeP_27 rfl ⟨(vb0 (by omega)), rfl⟩
    · skip
      refine j_iload_n jb dX11_mayBeP_15 1 rfl ?_
      refine j_iload_n jb dX11_mayBeP_16 0 rfl ?_
      refine j_ishr jb dX11_mayBeP_17 (by omega) (by omega) ?_
      refine j_iload_n jb dX11_mayBeP_18 2 rfl ?_
      refine j_icmp_lt (tgt := 26) jb dX11_mayBeP_19 (by decide) (by omega) (by omega) (fun c_19 => ?_) (fun c_19 => ?_)
      · skip
        refine j_iconst jb dX11_mayBeP_26 ?_
        refine j_norm (lv' := []) (st' := [.int (iI 0)]) (ws' := []) [] [] rfl rfl (by decide) rfl ?_
        exact j_zret jb jr dX11_mayBeP_27 rfl ⟨(vb0 (by omega)), rfl⟩
      · skip
        refine j_iconst jb dX11_mayBeP_22 ?_
        refine j_goto (tgt := 27) jb dX11_mayBeP_23 (by decide) ?_
        refine j_norm (lv' := []) (st' := [.int (iI 1)]) (ws' := []) [] [] rfl rfl (by decide) rfl ?_
        exact j_zret jb jr dX11_mayBeP_27 rfl ⟨(vb1 (by omega)), rfl⟩

set_option maxHeartbeats 4000000 in
set_option maxRecDepth 100000 in
theorem C_X11_signed (l : Launch) (g : GG) (v b : Int) (h2 : 1 ≤ b ∧ b ≤ 32) : Ctr l g yX11_signed cX11_signed 2 (some .int) 0 0 0 0 [.int (iI v), .int (iI b)] [] (fun vv ww => vv = some (.int (iI (sgn v b))) ∧ ww = []) := by
  refine Ctr.of [(0, .int (iI v)), (1, .int (iI b))] (by decide) (Nat.le_of_ble_eq_true rfl) rfl ?_
  intro x hxl hxg jb jr hin
  subst hxl; subst hxg
  refine j_iload_n jb dX11_signed_0 0 rfl ?_
  refine j_bipush jb dX11_signed_1 (by decide) ?_
  refine j_iload_n jb dX11_signed_3 1 rfl ?_
  refine j_isub jb dX11_signed_4 ?_
  refine j_ishl jb dX11_signed_5 (by omega) ?_
  refine j_topc (sgn v b * 2 ^ (32 - b).toNat) (sgn_shl h2.1 h2.2) ?_
  refine j_bipush jb dX11_signed_6 (by decide) ?_
  refine j_iload_n jb dX11_signed_8 1 rfl ?_
  refine j_isub jb dX11_signed_9 ?_
  refine j_ishr jb dX11_signed_10 (sgn_sh_in h2.1 h2.2) (by omega) ?_
  refine j_topi (sgn v b) sgn_shr ?_
  refine j_norm (lv' := []) (st' := [.int (iI (sgn v b))]) (ws' := []) [] [] rfl rfl (by decide) rfl ?_
  exact j_iret jb jr dX11_signed_11 ⟨rfl, rfl⟩

set_option maxHeartbeats 4000000 in
set_option maxRecDepth 100000 in
theorem C_X11_unfold (l : Launch) (g : GG) (u : Int) (h : inR u) : Ctr l g yX11_unfold cX11_unfold 1 (some .int) 0 0 0 0 [.int (iI u)] [] (fun vv ww => ∃ (r : Int), vv = some (.int (iI r)) ∧ ww = [] ∧ r = unf u) := by
  refine Ctr.of [(0, .int (iI u))] (by decide) (Nat.le_of_ble_eq_true rfl) rfl ?_
  intro x hxl hxg jb jr hin
  subst hxl; subst hxg
  refine j_iload_n jb dX11_unfold_0 0 rfl ?_
  refine j_iconst jb dX11_unfold_1 ?_
  refine j_iand jb dX11_unfold_2 ?_
  refine j_topi (u % 2) (zAnd_1 u) ?_
  refine j_if_ne (tgt := 12) jb dX11_unfold_3 (by decide) (by omega) (fun c_3 => ?_) (fun c_3 => ?_)
  · skip
    refine j_iload_n jb dX11_unfold_12 0 rfl ?_
    refine j_iconst jb dX11_unfold_13 ?_
    refine j_ishr jb dX11_unfold_14 (by omega) (by omega) ?_
    refine j_ineg jb dX11_unfold_15 ?_
    refine j_iconst jb dX11_unfold_16 ?_
    refine j_isub jb dX11_unfold_17 ?_
    refine j_norm (lv' := []) (st' := [.int (iI ((-(u / 2 ^ (1 : Int).toNat)) - 1))]) (ws' := []) [] [] rfl rfl (by decide) rfl ?_
    exact j_iret jb jr dX11_unfold_18 ⟨_, rfl, rfl, (by unfold unf; first | (rw [if_pos (by omega), p1]; done) | (rw [if_neg (by omega), p1]; done))⟩
  · skip
    refine j_iload_n jb dX11_unfold_6 0 rfl ?_
    refine j_iconst jb dX11_unfold_7 ?_
    refine j_ishr jb dX11_unfold_8 (by omega) (by omega) ?_
    refine j_goto (tgt := 18) jb dX11_unfold_9 (by decide) ?_
    refine j_norm (lv' := []) (st' := [.int (iI (u / 2 ^ (1 : Int).toNat))]) (ws' := []) [] [] rfl rfl (by decide) rfl ?_
    exact j_iret jb jr dX11_unfold_18 ⟨_, rfl, rfl, (by unfold unf; first | (rw [if_pos (by omega), p1]; done) | (rw [if_neg (by omega), p1]; done))⟩

