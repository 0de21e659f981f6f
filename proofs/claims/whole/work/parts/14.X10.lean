set_option maxHeartbeats 4000000 in
set_option maxRecDepth 100000 in
theorem C_J6_numberOfTrailingZeros_0f7a4 (l : Launch) (g : GG) (a : Int) (ha : a ≠ 0) (hr : -65536 ≤ a ∧ a < 65536) : Ctr l g yJ6_numberOfTrailingZeros_0f7a4 cJ6_numberOfTrailingZeros_0f7a4 2 (some .int) 0 0 0 0 [.int (iI a)] [] (fun vv ww => ∃ (r : Int), vv = some (.int (iI r)) ∧ ww = [] ∧ 0 ≤ r ∧ r ≤ 16 ∧ a % 2 ^ r.toNat = 0 ∧ a / 2 ^ r.toNat % 2 = 1) := by
  refine Ctr.of [(0, .int (iI a))] (by decide) (Nat.le_of_ble_eq_true rfl) rfl ?_
  intro x hxl hxg jb jr hin
  subst hxl; subst hxg
  refine j_iload_n jb dJ6_numberOfTrailingZeros_0f7a4_0 0 rfl ?_
  refine j_iconst jb dJ6_numberOfTrailingZeros_0f7a4_1 ?_
  refine j_ixor jb dJ6_numberOfTrailingZeros_0f7a4_2 ?_
  refine j_iload_n jb dJ6_numberOfTrailingZeros_0f7a4_3 0 rfl ?_
  refine j_iconst jb dJ6_numberOfTrailingZeros_0f7a4_4 ?_
  refine j_isub jb dJ6_numberOfTrailingZeros_0f7a4_5 ?_
  refine j_iand jb dJ6_numberOfTrailingZeros_0f7a4_6 ?_
  obtain ⟨z, hz1, hz2, hz3⟩ := ntz_ex 16 a ha (by have h := e16; omega) (by have h := e16; omega)
  have hm := ntz_mask z a hr.1 hr.2 hz2 hz3
  obtain ⟨m, em⟩ : ∃ m : Int, m = 2 ^ z - 1 := ⟨_, rfl⟩
  refine j_topi m (by rw [zXor_m1 (by omega), hm, em]) ?_
  refine j_istore_n (lv' := [(0, .int (iI m))]) jb dJ6_numberOfTrailingZeros_0f7a4_7 rfl (by decide) rfl ?_
  rcases (show z = 0 ∨ z = 1 ∨ z = 2 ∨ z = 3 ∨ z = 4 ∨ z = 5 ∨ z = 6 ∨ z = 7 ∨ z = 8 ∨ z = 9 ∨ z = 10 ∨ z = 11 ∨ z = 12 ∨ z = 13 ∨ z = 14 ∨ z = 15 ∨ z = 16 by omega) with e | e | e | e | e | e | e | e | e | e | e | e | e | e | e | e | e
  · skip
    obtain rfl : m = 0 := by rw [em, e]; rfl
    rw [e] at hz2 hz3
    refine j_iload_n jb dJ6_numberOfTrailingZeros_0f7a4_8 0 rfl ?_
    refine j_if_gt (tgt := 17) jb dJ6_numberOfTrailingZeros_0f7a4_9 (by decide) (by decide) (fun h => absurd h (by decide)) (fun _ => ?_)
    refine j_iload_n jb dJ6_numberOfTrailingZeros_0f7a4_12 0 rfl ?_
    refine j_bipush jb dJ6_numberOfTrailingZeros_0f7a4_13 (by decide) ?_
    refine j_iand jb dJ6_numberOfTrailingZeros_0f7a4_15 ?_
    refine j_topi 0 (by decide) ?_
    refine j_norm (lv' := []) (st' := [.int (iI 0)]) (ws' := []) [] [] rfl rfl (by decide) rfl ?_
    exact j_iret jb jr dJ6_numberOfTrailingZeros_0f7a4_16 ⟨_, rfl, rfl, ⟨by decide, by decide, hz2, hz3⟩⟩
  · skip
    obtain rfl : m = 1 := by rw [em, e]; rfl
    rw [e] at hz2 hz3
    refine j_iload_n jb dJ6_numberOfTrailingZeros_0f7a4_8 0 rfl ?_
    refine j_if_gt (tgt := 17) jb dJ6_numberOfTrailingZeros_0f7a4_9 (by decide) (by decide) (fun _ => ?_) (fun h => absurd h (by decide))
    refine j_iconst jb dJ6_numberOfTrailingZeros_0f7a4_17 ?_
    refine j_istore_n (lv' := [(1, .int (iI 1)), (0, .int (iI 1))]) jb dJ6_numberOfTrailingZeros_0f7a4_18 rfl (by decide) rfl ?_
    refine j_iload_n jb dJ6_numberOfTrailingZeros_0f7a4_19 1 rfl ?_
    refine j_ldcw (z := 65536) jb q_J6_264 rfl dJ6_numberOfTrailingZeros_0f7a4_20 ?_
    refine j_icmp_le (tgt := 34) jb dJ6_numberOfTrailingZeros_0f7a4_23 (by decide) (by decide) (by decide) (fun _ => ?_) (fun h => absurd h (by decide))
    refine j_iload_n jb dJ6_numberOfTrailingZeros_0f7a4_34 1 rfl ?_
    refine j_sipush jb dJ6_numberOfTrailingZeros_0f7a4_35 (by decide) ?_
    refine j_icmp_le (tgt := 49) jb dJ6_numberOfTrailingZeros_0f7a4_38 (by decide) (by decide) (by decide) (fun _ => ?_) (fun h => absurd h (by decide))
    refine j_iload_n jb dJ6_numberOfTrailingZeros_0f7a4_49 1 rfl ?_
    refine j_bipush jb dJ6_numberOfTrailingZeros_0f7a4_50 (by decide) ?_
    refine j_icmp_le (tgt := 62) jb dJ6_numberOfTrailingZeros_0f7a4_52 (by decide) (by decide) (by decide) (fun _ => ?_) (fun h => absurd h (by decide))
    refine j_iload_n jb dJ6_numberOfTrailingZeros_0f7a4_62 1 rfl ?_
    refine j_iconst jb dJ6_numberOfTrailingZeros_0f7a4_63 ?_
    refine j_icmp_le (tgt := 74) jb dJ6_numberOfTrailingZeros_0f7a4_64 (by decide) (by decide) (by decide) (fun _ => ?_) (fun h => absurd h (by decide))
    refine j_iload_n jb dJ6_numberOfTrailingZeros_0f7a4_74 0 rfl ?_
    refine j_iload_n jb dJ6_numberOfTrailingZeros_0f7a4_75 1 rfl ?_
    refine j_iconst jb dJ6_numberOfTrailingZeros_0f7a4_76 ?_
    refine j_iushr jb dJ6_numberOfTrailingZeros_0f7a4_77 (by decide) (by decide) ?_
    refine j_iadd jb dJ6_numberOfTrailingZeros_0f7a4_78 ?_
    refine j_norm (lv' := []) (st' := [.int (iI (1 + (1 / 2 ^ (1 : Int).toNat)))]) (ws' := []) [] [] rfl rfl (by decide) rfl ?_
    exact j_iret jb jr dJ6_numberOfTrailingZeros_0f7a4_79 ⟨_, rfl, rfl, ⟨by decide, by decide, hz2, hz3⟩⟩
  · skip
    obtain rfl : m = 3 := by rw [em, e]; rfl
    rw [e] at hz2 hz3
    refine j_iload_n jb dJ6_numberOfTrailingZeros_0f7a4_8 0 rfl ?_
    refine j_if_gt (tgt := 17) jb dJ6_numberOfTrailingZeros_0f7a4_9 (by decide) (by decide) (fun _ => ?_) (fun h => absurd h (by decide))
    refine j_iconst jb dJ6_numberOfTrailingZeros_0f7a4_17 ?_
    refine j_istore_n (lv' := [(1, .int (iI 1)), (0, .int (iI 3))]) jb dJ6_numberOfTrailingZeros_0f7a4_18 rfl (by decide) rfl ?_
    refine j_iload_n jb dJ6_numberOfTrailingZeros_0f7a4_19 1 rfl ?_
    refine j_ldcw (z := 65536) jb q_J6_264 rfl dJ6_numberOfTrailingZeros_0f7a4_20 ?_
    refine j_icmp_le (tgt := 34) jb dJ6_numberOfTrailingZeros_0f7a4_23 (by decide) (by decide) (by decide) (fun _ => ?_) (fun h => absurd h (by decide))
    refine j_iload_n jb dJ6_numberOfTrailingZeros_0f7a4_34 1 rfl ?_
    refine j_sipush jb dJ6_numberOfTrailingZeros_0f7a4_35 (by decide) ?_
    refine j_icmp_le (tgt := 49) jb dJ6_numberOfTrailingZeros_0f7a4_38 (by decide) (by decide) (by decide) (fun _ => ?_) (fun h => absurd h (by decide))
    refine j_iload_n jb dJ6_numberOfTrailingZeros_0f7a4_49 1 rfl ?_
    refine j_bipush jb dJ6_numberOfTrailingZeros_0f7a4_50 (by decide) ?_
    refine j_icmp_le (tgt := 62) jb dJ6_numberOfTrailingZeros_0f7a4_52 (by decide) (by decide) (by decide) (fun _ => ?_) (fun h => absurd h (by decide))
    refine j_iload_n jb dJ6_numberOfTrailingZeros_0f7a4_62 1 rfl ?_
    refine j_iconst jb dJ6_numberOfTrailingZeros_0f7a4_63 ?_
    refine j_icmp_le (tgt := 74) jb dJ6_numberOfTrailingZeros_0f7a4_64 (by decide) (by decide) (by decide) (fun _ => ?_) (fun h => absurd h (by decide))
    refine j_iload_n jb dJ6_numberOfTrailingZeros_0f7a4_74 0 rfl ?_
    refine j_iload_n jb dJ6_numberOfTrailingZeros_0f7a4_75 1 rfl ?_
    refine j_iconst jb dJ6_numberOfTrailingZeros_0f7a4_76 ?_
    refine j_iushr jb dJ6_numberOfTrailingZeros_0f7a4_77 (by decide) (by decide) ?_
    refine j_iadd jb dJ6_numberOfTrailingZeros_0f7a4_78 ?_
    refine j_norm (lv' := []) (st' := [.int (iI (1 + (3 / 2 ^ (1 : Int).toNat)))]) (ws' := []) [] [] rfl rfl (by decide) rfl ?_
    exact j_iret jb jr dJ6_numberOfTrailingZeros_0f7a4_79 ⟨_, rfl, rfl, ⟨by decide, by decide, hz2, hz3⟩⟩
  · skip
    obtain rfl : m = 7 := by rw [em, e]; rfl
    rw [e] at hz2 hz3
    refine j_iload_n jb dJ6_numberOfTrailingZeros_0f7a4_8 0 rfl ?_
    refine j_if_gt (tgt := 17) jb dJ6_numberOfTrailingZeros_0f7a4_9 (by decide) (by decide) (fun _ => ?_) (fun h => absurd h (by decide))
    refine j_iconst jb dJ6_numberOfTrailingZeros_0f7a4_17 ?_
    refine j_istore_n (lv' := [(1, .int (iI 1)), (0, .int (iI 7))]) jb dJ6_numberOfTrailingZeros_0f7a4_18 rfl (by decide) rfl ?_
    refine j_iload_n jb dJ6_numberOfTrailingZeros_0f7a4_19 1 rfl ?_
    refine j_ldcw (z := 65536) jb q_J6_264 rfl dJ6_numberOfTrailingZeros_0f7a4_20 ?_
    refine j_icmp_le (tgt := 34) jb dJ6_numberOfTrailingZeros_0f7a4_23 (by decide) (by decide) (by decide) (fun _ => ?_) (fun h => absurd h (by decide))
    refine j_iload_n jb dJ6_numberOfTrailingZeros_0f7a4_34 1 rfl ?_
    refine j_sipush jb dJ6_numberOfTrailingZeros_0f7a4_35 (by decide) ?_
    refine j_icmp_le (tgt := 49) jb dJ6_numberOfTrailingZeros_0f7a4_38 (by decide) (by decide) (by decide) (fun _ => ?_) (fun h => absurd h (by decide))
    refine j_iload_n jb dJ6_numberOfTrailingZeros_0f7a4_49 1 rfl ?_
    refine j_bipush jb dJ6_numberOfTrailingZeros_0f7a4_50 (by decide) ?_
    refine j_icmp_le (tgt := 62) jb dJ6_numberOfTrailingZeros_0f7a4_52 (by decide) (by decide) (by decide) (fun _ => ?_) (fun h => absurd h (by decide))
    refine j_iload_n jb dJ6_numberOfTrailingZeros_0f7a4_62 1 rfl ?_
    refine j_iconst jb dJ6_numberOfTrailingZeros_0f7a4_63 ?_
    refine j_icmp_le (tgt := 74) jb dJ6_numberOfTrailingZeros_0f7a4_64 (by decide) (by decide) (by decide) (fun h => absurd h (by decide)) (fun _ => ?_)
    refine j_iinc (lv' := [(1, .int (iI (1 + 2))), (0, .int (iI 7))]) jb dJ6_numberOfTrailingZeros_0f7a4_67 0 rfl (by decide) rfl ?_
    refine j_iload_n jb dJ6_numberOfTrailingZeros_0f7a4_70 1 rfl ?_
    refine j_iconst jb dJ6_numberOfTrailingZeros_0f7a4_71 ?_
    refine j_iushr jb dJ6_numberOfTrailingZeros_0f7a4_72 (by decide) (by decide) ?_
    refine j_istore_n (lv' := [(0, .int (iI (7 / 2 ^ (2 : Int).toNat))), (1, .int (iI (1 + 2)))]) jb dJ6_numberOfTrailingZeros_0f7a4_73 rfl (by decide) rfl ?_
    refine j_iload_n jb dJ6_numberOfTrailingZeros_0f7a4_74 1 rfl ?_
    refine j_iload_n jb dJ6_numberOfTrailingZeros_0f7a4_75 0 rfl ?_
    refine j_iconst jb dJ6_numberOfTrailingZeros_0f7a4_76 ?_
    refine j_iushr jb dJ6_numberOfTrailingZeros_0f7a4_77 (by decide) (by decide) ?_
    refine j_iadd jb dJ6_numberOfTrailingZeros_0f7a4_78 ?_
    refine j_norm (lv' := []) (st' := [.int (iI ((1 + 2) + ((7 / 2 ^ (2 : Int).toNat) / 2 ^ (1 : Int).toNat)))]) (ws' := []) [] [] rfl rfl (by decide) rfl ?_
    exact j_iret jb jr dJ6_numberOfTrailingZeros_0f7a4_79 ⟨_, rfl, rfl, ⟨by decide, by decide, hz2, hz3⟩⟩
  · skip
    obtain rfl : m = 15 := by rw [em, e]; rfl
    rw [e] at hz2 hz3
    refine j_iload_n jb dJ6_numberOfTrailingZeros_0f7a4_8 0 rfl ?_
    refine j_if_gt (tgt := 17) jb dJ6_numberOfTrailingZeros_0f7a4_9 (by decide) (by decide) (fun _ => ?_) (fun h => absurd h (by decide))
    refine j_iconst jb dJ6_numberOfTrailingZeros_0f7a4_17 ?_
    refine j_istore_n (lv' := [(1, .int (iI 1)), (0, .int (iI 15))]) jb dJ6_numberOfTrailingZeros_0f7a4_18 rfl (by decide) rfl ?_
    refine j_iload_n jb dJ6_numberOfTrailingZeros_0f7a4_19 1 rfl ?_
    refine j_ldcw (z := 65536) jb q_J6_264 rfl dJ6_numberOfTrailingZeros_0f7a4_20 ?_
    refine j_icmp_le (tgt := 34) jb dJ6_numberOfTrailingZeros_0f7a4_23 (by decide) (by decide) (by decide) (fun _ => ?_) (fun h => absurd h (by decide))
    refine j_iload_n jb dJ6_numberOfTrailingZeros_0f7a4_34 1 rfl ?_
    refine j_sipush jb dJ6_numberOfTrailingZeros_0f7a4_35 (by decide) ?_
    refine j_icmp_le (tgt := 49) jb dJ6_numberOfTrailingZeros_0f7a4_38 (by decide) (by decide) (by decide) (fun _ => ?_) (fun h => absurd h (by decide))
    refine j_iload_n jb dJ6_numberOfTrailingZeros_0f7a4_49 1 rfl ?_
    refine j_bipush jb dJ6_numberOfTrailingZeros_0f7a4_50 (by decide) ?_
    refine j_icmp_le (tgt := 62) jb dJ6_numberOfTrailingZeros_0f7a4_52 (by decide) (by decide) (by decide) (fun _ => ?_) (fun h => absurd h (by decide))
    refine j_iload_n jb dJ6_numberOfTrailingZeros_0f7a4_62 1 rfl ?_
    refine j_iconst jb dJ6_numberOfTrailingZeros_0f7a4_63 ?_
    refine j_icmp_le (tgt := 74) jb dJ6_numberOfTrailingZeros_0f7a4_64 (by decide) (by decide) (by decide) (fun h => absurd h (by decide)) (fun _ => ?_)
    refine j_iinc (lv' := [(1, .int (iI (1 + 2))), (0, .int (iI 15))]) jb dJ6_numberOfTrailingZeros_0f7a4_67 0 rfl (by decide) rfl ?_
    refine j_iload_n jb dJ6_numberOfTrailingZeros_0f7a4_70 1 rfl ?_
    refine j_iconst jb dJ6_numberOfTrailingZeros_0f7a4_71 ?_
    refine j_iushr jb dJ6_numberOfTrailingZeros_0f7a4_72 (by decide) (by decide) ?_
    refine j_istore_n (lv' := [(0, .int (iI (15 / 2 ^ (2 : Int).toNat))), (1, .int (iI (1 + 2)))]) jb dJ6_numberOfTrailingZeros_0f7a4_73 rfl (by decide) rfl ?_
    refine j_iload_n jb dJ6_numberOfTrailingZeros_0f7a4_74 1 rfl ?_
    refine j_iload_n jb dJ6_numberOfTrailingZeros_0f7a4_75 0 rfl ?_
    refine j_iconst jb dJ6_numberOfTrailingZeros_0f7a4_76 ?_
    refine j_iushr jb dJ6_numberOfTrailingZeros_0f7a4_77 (by decide) (by decide) ?_
    refine j_iadd jb dJ6_numberOfTrailingZeros_0f7a4_78 ?_
    refine j_norm (lv' := []) (st' := [.int (iI ((1 + 2) + ((15 / 2 ^ (2 : Int).toNat) / 2 ^ (1 : Int).toNat)))]) (ws' := []) [] [] rfl rfl (by decide) rfl ?_
    exact j_iret jb jr dJ6_numberOfTrailingZeros_0f7a4_79 ⟨_, rfl, rfl, ⟨by decide, by decide, hz2, hz3⟩⟩
  · skip
    obtain rfl : m = 31 := by rw [em, e]; rfl
    rw [e] at hz2 hz3
    refine j_iload_n jb dJ6_numberOfTrailingZeros_0f7a4_8 0 rfl ?_
    refine j_if_gt (tgt := 17) jb dJ6_numberOfTrailingZeros_0f7a4_9 (by decide) (by decide) (fun _ => ?_) (fun h => absurd h (by decide))
    refine j_iconst jb dJ6_numberOfTrailingZeros_0f7a4_17 ?_
    refine j_istore_n (lv' := [(1, .int (iI 1)), (0, .int (iI 31))]) jb dJ6_numberOfTrailingZeros_0f7a4_18 rfl (by decide) rfl ?_
    refine j_iload_n jb dJ6_numberOfTrailingZeros_0f7a4_19 1 rfl ?_
    refine j_ldcw (z := 65536) jb q_J6_264 rfl dJ6_numberOfTrailingZeros_0f7a4_20 ?_
    refine j_icmp_le (tgt := 34) jb dJ6_numberOfTrailingZeros_0f7a4_23 (by decide) (by decide) (by decide) (fun _ => ?_) (fun h => absurd h (by decide))
    refine j_iload_n jb dJ6_numberOfTrailingZeros_0f7a4_34 1 rfl ?_
    refine j_sipush jb dJ6_numberOfTrailingZeros_0f7a4_35 (by decide) ?_
    refine j_icmp_le (tgt := 49) jb dJ6_numberOfTrailingZeros_0f7a4_38 (by decide) (by decide) (by decide) (fun _ => ?_) (fun h => absurd h (by decide))
    refine j_iload_n jb dJ6_numberOfTrailingZeros_0f7a4_49 1 rfl ?_
    refine j_bipush jb dJ6_numberOfTrailingZeros_0f7a4_50 (by decide) ?_
    refine j_icmp_le (tgt := 62) jb dJ6_numberOfTrailingZeros_0f7a4_52 (by decide) (by decide) (by decide) (fun h => absurd h (by decide)) (fun _ => ?_)
    refine j_iinc (lv' := [(1, .int (iI (1 + 4))), (0, .int (iI 31))]) jb dJ6_numberOfTrailingZeros_0f7a4_55 0 rfl (by decide) rfl ?_
    refine j_iload_n jb dJ6_numberOfTrailingZeros_0f7a4_58 1 rfl ?_
    refine j_iconst jb dJ6_numberOfTrailingZeros_0f7a4_59 ?_
    refine j_iushr jb dJ6_numberOfTrailingZeros_0f7a4_60 (by decide) (by decide) ?_
    refine j_istore_n (lv' := [(0, .int (iI (31 / 2 ^ (4 : Int).toNat))), (1, .int (iI (1 + 4)))]) jb dJ6_numberOfTrailingZeros_0f7a4_61 rfl (by decide) rfl ?_
    refine j_iload_n jb dJ6_numberOfTrailingZeros_0f7a4_62 0 rfl ?_
    refine j_iconst jb dJ6_numberOfTrailingZeros_0f7a4_63 ?_
    refine j_icmp_le (tgt := 74) jb dJ6_numberOfTrailingZeros_0f7a4_64 (by decide) (by decide) (by decide) (fun _ => ?_) (fun h => absurd h (by decide))
    refine j_iload_n jb dJ6_numberOfTrailingZeros_0f7a4_74 1 rfl ?_
    refine j_iload_n jb dJ6_numberOfTrailingZeros_0f7a4_75 0 rfl ?_
    refine j_iconst jb dJ6_numberOfTrailingZeros_0f7a4_76 ?_
    refine j_iushr jb dJ6_numberOfTrailingZeros_0f7a4_77 (by decide) (by decide) ?_
    refine j_iadd jb dJ6_numberOfTrailingZeros_0f7a4_78 ?_
    refine j_norm (lv' := []) (st' := [.int (iI ((1 + 4) + ((31 / 2 ^ (4 : Int).toNat) / 2 ^ (1 : Int).toNat)))]) (ws' := []) [] [] rfl rfl (by decide) rfl ?_
    exact j_iret jb jr dJ6_numberOfTrailingZeros_0f7a4_79 ⟨_, rfl, rfl, ⟨by decide, by decide, hz2, hz3⟩⟩
  · skip
    obtain rfl : m = 63 := by rw [em, e]; rfl
    rw [e] at hz2 hz3
    refine j_iload_n jb dJ6_numberOfTrailingZeros_0f7a4_8 0 rfl ?_
    refine j_if_gt (tgt := 17) jb dJ6_numberOfTrailingZeros_0f7a4_9 (by decide) (by decide) (fun _ => ?_) (fun h => absurd h (by decide))
    refine j_iconst jb dJ6_numberOfTrailingZeros_0f7a4_17 ?_
    refine j_istore_n (lv' := [(1, .int (iI 1)), (0, .int (iI 63))]) jb dJ6_numberOfTrailingZeros_0f7a4_18 rfl (by decide) rfl ?_
    refine j_iload_n jb dJ6_numberOfTrailingZeros_0f7a4_19 1 rfl ?_
    refine j_ldcw (z := 65536) jb q_J6_264 rfl dJ6_numberOfTrailingZeros_0f7a4_20 ?_
    refine j_icmp_le (tgt := 34) jb dJ6_numberOfTrailingZeros_0f7a4_23 (by decide) (by decide) (by decide) (fun _ => ?_) (fun h => absurd h (by decide))
    refine j_iload_n jb dJ6_numberOfTrailingZeros_0f7a4_34 1 rfl ?_
    refine j_sipush jb dJ6_numberOfTrailingZeros_0f7a4_35 (by decide) ?_
    refine j_icmp_le (tgt := 49) jb dJ6_numberOfTrailingZeros_0f7a4_38 (by decide) (by decide) (by decide) (fun _ => ?_) (fun h => absurd h (by decide))
    refine j_iload_n jb dJ6_numberOfTrailingZeros_0f7a4_49 1 rfl ?_
    refine j_bipush jb dJ6_numberOfTrailingZeros_0f7a4_50 (by decide) ?_
    refine j_icmp_le (tgt := 62) jb dJ6_numberOfTrailingZeros_0f7a4_52 (by decide) (by decide) (by decide) (fun h => absurd h (by decide)) (fun _ => ?_)
    refine j_iinc (lv' := [(1, .int (iI (1 + 4))), (0, .int (iI 63))]) jb dJ6_numberOfTrailingZeros_0f7a4_55 0 rfl (by decide) rfl ?_
    refine j_iload_n jb dJ6_numberOfTrailingZeros_0f7a4_58 1 rfl ?_
    refine j_iconst jb dJ6_numberOfTrailingZeros_0f7a4_59 ?_
    refine j_iushr jb dJ6_numberOfTrailingZeros_0f7a4_60 (by decide) (by decide) ?_
    refine j_istore_n (lv' := [(0, .int (iI (63 / 2 ^ (4 : Int).toNat))), (1, .int (iI (1 + 4)))]) jb dJ6_numberOfTrailingZeros_0f7a4_61 rfl (by decide) rfl ?_
    refine j_iload_n jb dJ6_numberOfTrailingZeros_0f7a4_62 0 rfl ?_
    refine j_iconst jb dJ6_numberOfTrailingZeros_0f7a4_63 ?_
    refine j_icmp_le (tgt := 74) jb dJ6_numberOfTrailingZeros_0f7a4_64 (by decide) (by decide) (by decide) (fun _ => ?_) (fun h => absurd h (by decide))
    refine j_iload_n jb dJ6_numberOfTrailingZeros_0f7a4_74 1 rfl ?_
    refine j_iload_n jb dJ6_numberOfTrailingZeros_0f7a4_75 0 rfl ?_
    refine j_iconst jb dJ6_numberOfTrailingZeros_0f7a4_76 ?_
    refine j_iushr jb dJ6_numberOfTrailingZeros_0f7a4_77 (by decide) (by decide) ?_
    refine j_iadd jb dJ6_numberOfTrailingZeros_0f7a4_78 ?_
    refine j_norm (lv' := []) (st' := [.int (iI ((1 + 4) + ((63 / 2 ^ (4 : Int).toNat) / 2 ^ (1 : Int).toNat)))]) (ws' := []) [] [] rfl rfl (by decide) rfl ?_
    exact j_iret jb jr dJ6_numberOfTrailingZeros_0f7a4_79 ⟨_, rfl, rfl, ⟨by decide, by decide, hz2, hz3⟩⟩
  · skip
    obtain rfl : m = 127 := by rw [em, e]; rfl
    rw [e] at hz2 hz3
    refine j_iload_n jb dJ6_numberOfTrailingZeros_0f7a4_8 0 rfl ?_
    refine j_if_gt (tgt := 17) jb dJ6_numberOfTrailingZeros_0f7a4_9 (by decide) (by decide) (fun _ => ?_) (fun h => absurd h (by decide))
    refine j_iconst jb dJ6_numberOfTrailingZeros_0f7a4_17 ?_
    refine j_istore_n (lv' := [(1, .int (iI 1)), (0, .int (iI 127))]) jb dJ6_numberOfTrailingZeros_0f7a4_18 rfl (by decide) rfl ?_
    refine j_iload_n jb dJ6_numberOfTrailingZeros_0f7a4_19 1 rfl ?_
    refine j_ldcw (z := 65536) jb q_J6_264 rfl dJ6_numberOfTrailingZeros_0f7a4_20 ?_
    refine j_icmp_le (tgt := 34) jb dJ6_numberOfTrailingZeros_0f7a4_23 (by decide) (by decide) (by decide) (fun _ => ?_) (fun h => absurd h (by decide))
    refine j_iload_n jb dJ6_numberOfTrailingZeros_0f7a4_34 1 rfl ?_
    refine j_sipush jb dJ6_numberOfTrailingZeros_0f7a4_35 (by decide) ?_
    refine j_icmp_le (tgt := 49) jb dJ6_numberOfTrailingZeros_0f7a4_38 (by decide) (by decide) (by decide) (fun _ => ?_) (fun h => absurd h (by decide))
    refine j_iload_n jb dJ6_numberOfTrailingZeros_0f7a4_49 1 rfl ?_
    refine j_bipush jb dJ6_numberOfTrailingZeros_0f7a4_50 (by decide) ?_
    refine j_icmp_le (tgt := 62) jb dJ6_numberOfTrailingZeros_0f7a4_52 (by decide) (by decide) (by decide) (fun h => absurd h (by decide)) (fun _ => ?_)
    refine j_iinc (lv' := [(1, .int (iI (1 + 4))), (0, .int (iI 127))]) jb dJ6_numberOfTrailingZeros_0f7a4_55 0 rfl (by decide) rfl ?_
    refine j_iload_n jb dJ6_numberOfTrailingZeros_0f7a4_58 1 rfl ?_
    refine j_iconst jb dJ6_numberOfTrailingZeros_0f7a4_59 ?_
    refine j_iushr jb dJ6_numberOfTrailingZeros_0f7a4_60 (by decide) (by decide) ?_
    refine j_istore_n (lv' := [(0, .int (iI (127 / 2 ^ (4 : Int).toNat))), (1, .int (iI (1 + 4)))]) jb dJ6_numberOfTrailingZeros_0f7a4_61 rfl (by decide) rfl ?_
    refine j_iload_n jb dJ6_numberOfTrailingZeros_0f7a4_62 0 rfl ?_
    refine j_iconst jb dJ6_numberOfTrailingZeros_0f7a4_63 ?_
    refine j_icmp_le (tgt := 74) jb dJ6_numberOfTrailingZeros_0f7a4_64 (by decide) (by decide) (by decide) (fun h => absurd h (by decide)) (fun _ => ?_)
    refine j_iinc (lv' := [(1, .int (iI ((1 + 4) + 2))), (0, .int (iI (127 / 2 ^ (4 : Int).toNat)))]) jb dJ6_numberOfTrailingZeros_0f7a4_67 1 rfl (by decide) rfl ?_
    refine j_iload_n jb dJ6_numberOfTrailingZeros_0f7a4_70 1 rfl ?_
    refine j_iconst jb dJ6_numberOfTrailingZeros_0f7a4_71 ?_
    refine j_iushr jb dJ6_numberOfTrailingZeros_0f7a4_72 (by decide) (by decide) ?_
    refine j_istore_n (lv' := [(0, .int (iI ((127 / 2 ^ (4 : Int).toNat) / 2 ^ (2 : Int).toNat))), (1, .int (iI ((1 + 4) + 2)))]) jb dJ6_numberOfTrailingZeros_0f7a4_73 rfl (by decide) rfl ?_
    refine j_iload_n jb dJ6_numberOfTrailingZeros_0f7a4_74 1 rfl ?_
    refine j_iload_n jb dJ6_numberOfTrailingZeros_0f7a4_75 0 rfl ?_
    refine j_iconst jb dJ6_numberOfTrailingZeros_0f7a4_76 ?_
    refine j_iushr jb dJ6_numberOfTrailingZeros_0f7a4_77 (by decide) (by decide) ?_
    refine j_iadd jb dJ6_numberOfTrailingZeros_0f7a4_78 ?_
    refine j_norm (lv' := []) (st' := [.int (iI (((1 + 4) + 2) + (((127 / 2 ^ (4 : Int).toNat) / 2 ^ (2 : Int).toNat) / 2 ^ (1 : Int).toNat)))]) (ws' := []) [] [] rfl rfl (by decide) rfl ?_
    exact j_iret jb jr dJ6_numberOfTrailingZeros_0f7a4_79 ⟨_, rfl, rfl, ⟨by decide, by decide, hz2, hz3⟩⟩
  · skip
    obtain rfl : m = 255 := by rw [em, e]; rfl
    rw [e] at hz2 hz3
    refine j_iload_n jb dJ6_numberOfTrailingZeros_0f7a4_8 0 rfl ?_
    refine j_if_gt (tgt := 17) jb dJ6_numberOfTrailingZeros_0f7a4_9 (by decide) (by decide) (fun _ => ?_) (fun h => absurd h (by decide))
    refine j_iconst jb dJ6_numberOfTrailingZeros_0f7a4_17 ?_
    refine j_istore_n (lv' := [(1, .int (iI 1)), (0, .int (iI 255))]) jb dJ6_numberOfTrailingZeros_0f7a4_18 rfl (by decide) rfl ?_
    refine j_iload_n jb dJ6_numberOfTrailingZeros_0f7a4_19 1 rfl ?_
    refine j_ldcw (z := 65536) jb q_J6_264 rfl dJ6_numberOfTrailingZeros_0f7a4_20 ?_
    refine j_icmp_le (tgt := 34) jb dJ6_numberOfTrailingZeros_0f7a4_23 (by decide) (by decide) (by decide) (fun _ => ?_) (fun h => absurd h (by decide))
    refine j_iload_n jb dJ6_numberOfTrailingZeros_0f7a4_34 1 rfl ?_
    refine j_sipush jb dJ6_numberOfTrailingZeros_0f7a4_35 (by decide) ?_
    refine j_icmp_le (tgt := 49) jb dJ6_numberOfTrailingZeros_0f7a4_38 (by decide) (by decide) (by decide) (fun _ => ?_) (fun h => absurd h (by decide))
    refine j_iload_n jb dJ6_numberOfTrailingZeros_0f7a4_49 1 rfl ?_
    refine j_bipush jb dJ6_numberOfTrailingZeros_0f7a4_50 (by decide) ?_
    refine j_icmp_le (tgt := 62) jb dJ6_numberOfTrailingZeros_0f7a4_52 (by decide) (by decide) (by decide) (fun h => absurd h (by decide)) (fun _ => ?_)
    refine j_iinc (lv' := [(1, .int (iI (1 + 4))), (0, .int (iI 255))]) jb dJ6_numberOfTrailingZeros_0f7a4_55 0 rfl (by decide) rfl ?_
    refine j_iload_n jb dJ6_numberOfTrailingZeros_0f7a4_58 1 rfl ?_
    refine j_iconst jb dJ6_numberOfTrailingZeros_0f7a4_59 ?_
    refine j_iushr jb dJ6_numberOfTrailingZeros_0f7a4_60 (by decide) (by decide) ?_
    refine j_istore_n (lv' := [(0, .int (iI (255 / 2 ^ (4 : Int).toNat))), (1, .int (iI (1 + 4)))]) jb dJ6_numberOfTrailingZeros_0f7a4_61 rfl (by decide) rfl ?_
    refine j_iload_n jb dJ6_numberOfTrailingZeros_0f7a4_62 0 rfl ?_
    refine j_iconst jb dJ6_numberOfTrailingZeros_0f7a4_63 ?_
    refine j_icmp_le (tgt := 74) jb dJ6_numberOfTrailingZeros_0f7a4_64 (by decide) (by decide) (by decide) (fun h => absurd h (by decide)) (fun _ => ?_)
    refine j_iinc (lv' := [(1, .int (iI ((1 + 4) + 2))), (0, .int (iI (255 / 2 ^ (4 : Int).toNat)))]) jb dJ6_numberOfTrailingZeros_0f7a4_67 1 rfl (by decide) rfl ?_
    refine j_iload_n jb dJ6_numberOfTrailingZeros_0f7a4_70 1 rfl ?_
    refine j_iconst jb dJ6_numberOfTrailingZeros_0f7a4_71 ?_
    refine j_iushr jb dJ6_numberOfTrailingZeros_0f7a4_72 (by decide) (by decide) ?_
    refine j_istore_n (lv' := [(0, .int (iI ((255 / 2 ^ (4 : Int).toNat) / 2 ^ (2 : Int).toNat))), (1, .int (iI ((1 + 4) + 2)))]) jb dJ6_numberOfTrailingZeros_0f7a4_73 rfl (by decide) rfl ?_
    refine j_iload_n jb dJ6_numberOfTrailingZeros_0f7a4_74 1 rfl ?_
    refine j_iload_n jb dJ6_numberOfTrailingZeros_0f7a4_75 0 rfl ?_
    refine j_iconst jb dJ6_numberOfTrailingZeros_0f7a4_76 ?_
    refine j_iushr jb dJ6_numberOfTrailingZeros_0f7a4_77 (by decide) (by decide) ?_
    refine j_iadd jb dJ6_numberOfTrailingZeros_0f7a4_78 ?_
    refine j_norm (lv' := []) (st' := [.int (iI (((1 + 4) + 2) + (((255 / 2 ^ (4 : Int).toNat) / 2 ^ (2 : Int).toNat) / 2 ^ (1 : Int).toNat)))]) (ws' := []) [] [] rfl rfl (by decide) rfl ?_
    exact j_iret jb jr dJ6_numberOfTrailingZeros_0f7a4_79 ⟨_, rfl, rfl, ⟨by decide, by decide, hz2, hz3⟩⟩
  · skip
    obtain rfl : m = 511 := by rw [em, e]; rfl
    rw [e] at hz2 hz3
    refine j_iload_n jb dJ6_numberOfTrailingZeros_0f7a4_8 0 rfl ?_
    refine j_if_gt (tgt := 17) jb dJ6_numberOfTrailingZeros_0f7a4_9 (by decide) (by decide) (fun _ => ?_) (fun h => absurd h (by decide))
    refine j_iconst jb dJ6_numberOfTrailingZeros_0f7a4_17 ?_
    refine j_istore_n (lv' := [(1, .int (iI 1)), (0, .int (iI 511))]) jb dJ6_numberOfTrailingZeros_0f7a4_18 rfl (by decide) rfl ?_
    refine j_iload_n jb dJ6_numberOfTrailingZeros_0f7a4_19 1 rfl ?_
    refine j_ldcw (z := 65536) jb q_J6_264 rfl dJ6_numberOfTrailingZeros_0f7a4_20 ?_
    refine j_icmp_le (tgt := 34) jb dJ6_numberOfTrailingZeros_0f7a4_23 (by decide) (by decide) (by decide) (fun _ => ?_) (fun h => absurd h (by decide))
    refine j_iload_n jb dJ6_numberOfTrailingZeros_0f7a4_34 1 rfl ?_
    refine j_sipush jb dJ6_numberOfTrailingZeros_0f7a4_35 (by decide) ?_
    refine j_icmp_le (tgt := 49) jb dJ6_numberOfTrailingZeros_0f7a4_38 (by decide) (by decide) (by decide) (fun h => absurd h (by decide)) (fun _ => ?_)
    refine j_iinc (lv' := [(1, .int (iI (1 + 8))), (0, .int (iI 511))]) jb dJ6_numberOfTrailingZeros_0f7a4_41 0 rfl (by decide) rfl ?_
    refine j_iload_n jb dJ6_numberOfTrailingZeros_0f7a4_44 1 rfl ?_
    refine j_bipush jb dJ6_numberOfTrailingZeros_0f7a4_45 (by decide) ?_
    refine j_iushr jb dJ6_numberOfTrailingZeros_0f7a4_47 (by decide) (by decide) ?_
    refine j_istore_n (lv' := [(0, .int (iI (511 / 2 ^ (8 : Int).toNat))), (1, .int (iI (1 + 8)))]) jb dJ6_numberOfTrailingZeros_0f7a4_48 rfl (by decide) rfl ?_
    refine j_iload_n jb dJ6_numberOfTrailingZeros_0f7a4_49 0 rfl ?_
    refine j_bipush jb dJ6_numberOfTrailingZeros_0f7a4_50 (by decide) ?_
    refine j_icmp_le (tgt := 62) jb dJ6_numberOfTrailingZeros_0f7a4_52 (by decide) (by decide) (by decide) (fun _ => ?_) (fun h => absurd h (by decide))
    refine j_iload_n jb dJ6_numberOfTrailingZeros_0f7a4_62 0 rfl ?_
    refine j_iconst jb dJ6_numberOfTrailingZeros_0f7a4_63 ?_
    refine j_icmp_le (tgt := 74) jb dJ6_numberOfTrailingZeros_0f7a4_64 (by decide) (by decide) (by decide) (fun _ => ?_) (fun h => absurd h (by decide))
    refine j_iload_n jb dJ6_numberOfTrailingZeros_0f7a4_74 1 rfl ?_
    refine j_iload_n jb dJ6_numberOfTrailingZeros_0f7a4_75 0 rfl ?_
    refine j_iconst jb dJ6_numberOfTrailingZeros_0f7a4_76 ?_
    refine j_iushr jb dJ6_numberOfTrailingZeros_0f7a4_77 (by decide) (by decide) ?_
    refine j_iadd jb dJ6_numberOfTrailingZeros_0f7a4_78 ?_
    refine j_norm (lv' := []) (st' := [.int (iI ((1 + 8) + ((511 / 2 ^ (8 : Int).toNat) / 2 ^ (1 : Int).toNat)))]) (ws' := []) [] [] rfl rfl (by decide) rfl ?_
    exact j_iret jb jr dJ6_numberOfTrailingZeros_0f7a4_79 ⟨_, rfl, rfl, ⟨by decide, by decide, hz2, hz3⟩⟩
  · skip
    obtain rfl : m = 1023 := by rw [em, e]; rfl
    rw [e] at hz2 hz3
    refine j_iload_n jb dJ6_numberOfTrailingZeros_0f7a4_8 0 rfl ?_
    refine j_if_gt (tgt := 17) jb dJ6_numberOfTrailingZeros_0f7a4_9 (by decide) (by decide) (fun _ => ?_) (fun h => absurd h (by decide))
    refine j_iconst jb dJ6_numberOfTrailingZeros_0f7a4_17 ?_
    refine j_istore_n (lv' := [(1, .int (iI 1)), (0, .int (iI 1023))]) jb dJ6_numberOfTrailingZeros_0f7a4_18 rfl (by decide) rfl ?_
    refine j_iload_n jb dJ6_numberOfTrailingZeros_0f7a4_19 1 rfl ?_
    refine j_ldcw (z := 65536) jb q_J6_264 rfl dJ6_numberOfTrailingZeros_0f7a4_20 ?_
    refine j_icmp_le (tgt := 34) jb dJ6_numberOfTrailingZeros_0f7a4_23 (by decide) (by decide) (by decide) (fun _ => ?_) (fun h => absurd h (by decide))
    refine j_iload_n jb dJ6_numberOfTrailingZeros_0f7a4_34 1 rfl ?_
    refine j_sipush jb dJ6_numberOfTrailingZeros_0f7a4_35 (by decide) ?_
    refine j_icmp_le (tgt := 49) jb dJ6_numberOfTrailingZeros_0f7a4_38 (by decide) (by decide) (by decide) (fun h => absurd h (by decide)) (fun _ => ?_)
    refine j_iinc (lv' := [(1, .int (iI (1 + 8))), (0, .int (iI 1023))]) jb dJ6_numberOfTrailingZeros_0f7a4_41 0 rfl (by decide) rfl ?_
    refine j_iload_n jb dJ6_numberOfTrailingZeros_0f7a4_44 1 rfl ?_
    refine j_bipush jb dJ6_numberOfTrailingZeros_0f7a4_45 (by decide) ?_
    refine j_iushr jb dJ6_numberOfTrailingZeros_0f7a4_47 (by decide) (by decide) ?_
    refine j_istore_n (lv' := [(0, .int (iI (1023 / 2 ^ (8 : Int).toNat))), (1, .int (iI (1 + 8)))]) jb dJ6_numberOfTrailingZeros_0f7a4_48 rfl (by decide) rfl ?_
    refine j_iload_n jb dJ6_numberOfTrailingZeros_0f7a4_49 0 rfl ?_
    refine j_bipush jb dJ6_numberOfTrailingZeros_0f7a4_50 (by decide) ?_
    refine j_icmp_le (tgt := 62) jb dJ6_numberOfTrailingZeros_0f7a4_52 (by decide) (by decide) (by decide) (fun _ => ?_) (fun h => absurd h (by decide))
    refine j_iload_n jb dJ6_numberOfTrailingZeros_0f7a4_62 0 rfl ?_
    refine j_iconst jb dJ6_numberOfTrailingZeros_0f7a4_63 ?_
    refine j_icmp_le (tgt := 74) jb dJ6_numberOfTrailingZeros_0f7a4_64 (by decide) (by decide) (by decide) (fun _ => ?_) (fun h => absurd h (by decide))
    refine j_iload_n jb dJ6_numberOfTrailingZeros_0f7a4_74 1 rfl ?_
    refine j_iload_n jb dJ6_numberOfTrailingZeros_0f7a4_75 0 rfl ?_
    refine j_iconst jb dJ6_numberOfTrailingZeros_0f7a4_76 ?_
    refine j_iushr jb dJ6_numberOfTrailingZeros_0f7a4_77 (by decide) (by decide) ?_
    refine j_iadd jb dJ6_numberOfTrailingZeros_0f7a4_78 ?_
    refine j_norm (lv' := []) (st' := [.int (iI ((1 + 8) + ((1023 / 2 ^ (8 : Int).toNat) / 2 ^ (1 : Int).toNat)))]) (ws' := []) [] [] rfl rfl (by decide) rfl ?_
    exact j_iret jb jr dJ6_numberOfTrailingZeros_0f7a4_79 ⟨_, rfl, rfl, ⟨by decide, by decide, hz2, hz3⟩⟩
  · skip
    obtain rfl : m = 2047 := by rw [em, e]; rfl
    rw [e] at hz2 hz3
    refine j_iload_n jb dJ6_numberOfTrailingZeros_0f7a4_8 0 rfl ?_
    refine j_if_gt (tgt := 17) jb dJ6_numberOfTrailingZeros_0f7a4_9 (by decide) (by decide) (fun _ => ?_) (fun h => absurd h (by decide))
    refine j_iconst jb dJ6_numberOfTrailingZeros_0f7a4_17 ?_
    refine j_istore_n (lv' := [(1, .int (iI 1)), (0, .int (iI 2047))]) jb dJ6_numberOfTrailingZeros_0f7a4_18 rfl (by decide) rfl ?_
    refine j_iload_n jb dJ6_numberOfTrailingZeros_0f7a4_19 1 rfl ?_
    refine j_ldcw (z := 65536) jb q_J6_264 rfl dJ6_numberOfTrailingZeros_0f7a4_20 ?_
    refine j_icmp_le (tgt := 34) jb dJ6_numberOfTrailingZeros_0f7a4_23 (by decide) (by decide) (by decide) (fun _ => ?_) (fun h => absurd h (by decide))
    refine j_iload_n jb dJ6_numberOfTrailingZeros_0f7a4_34 1 rfl ?_
    refine j_sipush jb dJ6_numberOfTrailingZeros_0f7a4_35 (by decide) ?_
    refine j_icmp_le (tgt := 49) jb dJ6_numberOfTrailingZeros_0f7a4_38 (by decide) (by decide) (by decide) (fun h => absurd h (by decide)) (fun _ => ?_)
    refine j_iinc (lv' := [(1, .int (iI (1 + 8))), (0, .int (iI 2047))]) jb dJ6_numberOfTrailingZeros_0f7a4_41 0 rfl (by decide) rfl ?_
    refine j_iload_n jb dJ6_numberOfTrailingZeros_0f7a4_44 1 rfl ?_
    refine j_bipush jb dJ6_numberOfTrailingZeros_0f7a4_45 (by decide) ?_
    refine j_iushr jb dJ6_numberOfTrailingZeros_0f7a4_47 (by decide) (by decide) ?_
    refine j_istore_n (lv' := [(0, .int (iI (2047 / 2 ^ (8 : Int).toNat))), (1, .int (iI (1 + 8)))]) jb dJ6_numberOfTrailingZeros_0f7a4_48 rfl (by decide) rfl ?_
    refine j_iload_n jb dJ6_numberOfTrailingZeros_0f7a4_49 0 rfl ?_
    refine j_bipush jb dJ6_numberOfTrailingZeros_0f7a4_50 (by decide) ?_
    refine j_icmp_le (tgt := 62) jb dJ6_numberOfTrailingZeros_0f7a4_52 (by decide) (by decide) (by decide) (fun _ => ?_) (fun h => absurd h (by decide))
    refine j_iload_n jb dJ6_numberOfTrailingZeros_0f7a4_62 0 rfl ?_
    refine j_iconst jb dJ6_numberOfTrailingZeros_0f7a4_63 ?_
    refine j_icmp_le (tgt := 74) jb dJ6_numberOfTrailingZeros_0f7a4_64 (by decide) (by decide) (by decide) (fun h => absurd h (by decide)) (fun _ => ?_)
    refine j_iinc (lv' := [(1, .int (iI ((1 + 8) + 2))), (0, .int (iI (2047 / 2 ^ (8 : Int).toNat)))]) jb dJ6_numberOfTrailingZeros_0f7a4_67 1 rfl (by decide) rfl ?_
    refine j_iload_n jb dJ6_numberOfTrailingZeros_0f7a4_70 1 rfl ?_
    refine j_iconst jb dJ6_numberOfTrailingZeros_0f7a4_71 ?_
    refine j_iushr jb dJ6_numberOfTrailingZeros_0f7a4_72 (by decide) (by decide) ?_
    refine j_istore_n (lv' := [(0, .int (iI ((2047 / 2 ^ (8 : Int).toNat) / 2 ^ (2 : Int).toNat))), (1, .int (iI ((1 + 8) + 2)))]) jb dJ6_numberOfTrailingZeros_0f7a4_73 rfl (by decide) rfl ?_
    refine j_iload_n jb dJ6_numberOfTrailingZeros_0f7a4_74 1 rfl ?_
    refine j_iload_n jb dJ6_numberOfTrailingZeros_0f7a4_75 0 rfl ?_
    refine j_iconst jb dJ6_numberOfTrailingZeros_0f7a4_76 ?_
    refine j_iushr jb dJ6_numberOfTrailingZeros_0f7a4_77 (by decide) (by decide) ?_
    refine j_iadd jb dJ6_numberOfTrailingZeros_0f7a4_78 ?_
    refine j_norm (lv' := []) (st' := [.int (iI (((1 + 8) + 2) + (((2047 / 2 ^ (8 : Int).toNat) / 2 ^ (2 : Int).toNat) / 2 ^ (1 : Int).toNat)))]) (ws' := []) [] [] rfl rfl (by decide) rfl ?_
    exact j_iret jb jr dJ6_numberOfTrailingZeros_0f7a4_79 ⟨_, rfl, rfl, ⟨by decide, by decide, hz2, hz3⟩⟩
  · skip
    obtain rfl : m = 4095 := by rw [em, e]; rfl
    rw [e] at hz2 hz3
    refine j_iload_n jb dJ6_numberOfTrailingZeros_0f7a4_8 0 rfl ?_
    refine j_if_gt (tgt := 17) jb dJ6_numberOfTrailingZeros_0f7a4_9 (by decide) (by decide) (fun _ => ?_) (fun h => absurd h (by decide))
    refine j_iconst jb dJ6_numberOfTrailingZeros_0f7a4_17 ?_
    refine j_istore_n (lv' := [(1, .int (iI 1)), (0, .int (iI 4095))]) jb dJ6_numberOfTrailingZeros_0f7a4_18 rfl (by decide) rfl ?_
    refine j_iload_n jb dJ6_numberOfTrailingZeros_0f7a4_19 1 rfl ?_
    refine j_ldcw (z := 65536) jb q_J6_264 rfl dJ6_numberOfTrailingZeros_0f7a4_20 ?_
    refine j_icmp_le (tgt := 34) jb dJ6_numberOfTrailingZeros_0f7a4_23 (by decide) (by decide) (by decide) (fun _ => ?_) (fun h => absurd h (by decide))
    refine j_iload_n jb dJ6_numberOfTrailingZeros_0f7a4_34 1 rfl ?_
    refine j_sipush jb dJ6_numberOfTrailingZeros_0f7a4_35 (by decide) ?_
    refine j_icmp_le (tgt := 49) jb dJ6_numberOfTrailingZeros_0f7a4_38 (by decide) (by decide) (by decide) (fun h => absurd h (by decide)) (fun _ => ?_)
    refine j_iinc (lv' := [(1, .int (iI (1 + 8))), (0, .int (iI 4095))]) jb dJ6_numberOfTrailingZeros_0f7a4_41 0 rfl (by decide) rfl ?_
    refine j_iload_n jb dJ6_numberOfTrailingZeros_0f7a4_44 1 rfl ?_
    refine j_bipush jb dJ6_numberOfTrailingZeros_0f7a4_45 (by decide) ?_
    refine j_iushr jb dJ6_numberOfTrailingZeros_0f7a4_47 (by decide) (by decide) ?_
    refine j_istore_n (lv' := [(0, .int (iI (4095 / 2 ^ (8 : Int).toNat))), (1, .int (iI (1 + 8)))]) jb dJ6_numberOfTrailingZeros_0f7a4_48 rfl (by decide) rfl ?_
    refine j_iload_n jb dJ6_numberOfTrailingZeros_0f7a4_49 0 rfl ?_
    refine j_bipush jb dJ6_numberOfTrailingZeros_0f7a4_50 (by decide) ?_
    refine j_icmp_le (tgt := 62) jb dJ6_numberOfTrailingZeros_0f7a4_52 (by decide) (by decide) (by decide) (fun _ => ?_) (fun h => absurd h (by decide))
    refine j_iload_n jb dJ6_numberOfTrailingZeros_0f7a4_62 0 rfl ?_
    refine j_iconst jb dJ6_numberOfTrailingZeros_0f7a4_63 ?_
    refine j_icmp_le (tgt := 74) jb dJ6_numberOfTrailingZeros_0f7a4_64 (by decide) (by decide) (by decide) (fun h => absurd h (by decide)) (fun _ => ?_)
    refine j_iinc (lv' := [(1, .int (iI ((1 + 8) + 2))), (0, .int (iI (4095 / 2 ^ (8 : Int).toNat)))]) jb dJ6_numberOfTrailingZeros_0f7a4_67 1 rfl (by decide) rfl ?_
    refine j_iload_n jb dJ6_numberOfTrailingZeros_0f7a4_70 1 rfl ?_
    refine j_iconst jb dJ6_numberOfTrailingZeros_0f7a4_71 ?_
    refine j_iushr jb dJ6_numberOfTrailingZeros_0f7a4_72 (by decide) (by decide) ?_
    refine j_istore_n (lv' := [(0, .int (iI ((4095 / 2 ^ (8 : Int).toNat) / 2 ^ (2 : Int).toNat))), (1, .int (iI ((1 + 8) + 2)))]) jb dJ6_numberOfTrailingZeros_0f7a4_73 rfl (by decide) rfl ?_
    refine j_iload_n jb dJ6_numberOfTrailingZeros_0f7a4_74 1 rfl ?_
    refine j_iload_n jb dJ6_numberOfTrailingZeros_0f7a4_75 0 rfl ?_
    refine j_iconst jb dJ6_numberOfTrailingZeros_0f7a4_76 ?_
    refine j_iushr jb dJ6_numberOfTrailingZeros_0f7a4_77 (by decide) (by decide) ?_
    refine j_iadd jb dJ6_numberOfTrailingZeros_0f7a4_78 ?_
    refine j_norm (lv' := []) (st' := [.int (iI (((1 + 8) + 2) + (((4095 / 2 ^ (8 : Int).toNat) / 2 ^ (2 : Int).toNat) / 2 ^ (1 : Int).toNat)))]) (ws' := []) [] [] rfl rfl (by decide) rfl ?_
    exact j_iret jb jr dJ6_numberOfTrailingZeros_0f7a4_79 ⟨_, rfl, rfl, ⟨by decide, by decide, hz2, hz3⟩⟩
  · skip
    obtain rfl : m = 8191 := by rw [em, e]; rfl
    rw [e] at hz2 hz3
    refine j_iload_n jb dJ6_numberOfTrailingZeros_0f7a4_8 0 rfl ?_
    refine j_if_gt (tgt := 17) jb dJ6_numberOfTrailingZeros_0f7a4_9 (by decide) (by decide) (fun _ => ?_) (fun h => absurd h (by decide))
    refine j_iconst jb dJ6_numberOfTrailingZeros_0f7a4_17 ?_
    refine j_istore_n (lv' := [(1, .int (iI 1)), (0, .int (iI 8191))]) jb dJ6_numberOfTrailingZeros_0f7a4_18 rfl (by decide) rfl ?_
    refine j_iload_n jb dJ6_numberOfTrailingZeros_0f7a4_19 1 rfl ?_
    refine j_ldcw (z := 65536) jb q_J6_264 rfl dJ6_numberOfTrailingZeros_0f7a4_20 ?_
    refine j_icmp_le (tgt := 34) jb dJ6_numberOfTrailingZeros_0f7a4_23 (by decide) (by decide) (by decide) (fun _ => ?_) (fun h => absurd h (by decide))
    refine j_iload_n jb dJ6_numberOfTrailingZeros_0f7a4_34 1 rfl ?_
    refine j_sipush jb dJ6_numberOfTrailingZeros_0f7a4_35 (by decide) ?_
    refine j_icmp_le (tgt := 49) jb dJ6_numberOfTrailingZeros_0f7a4_38 (by decide) (by decide) (by decide) (fun h => absurd h (by decide)) (fun _ => ?_)
    refine j_iinc (lv' := [(1, .int (iI (1 + 8))), (0, .int (iI 8191))]) jb dJ6_numberOfTrailingZeros_0f7a4_41 0 rfl (by decide) rfl ?_
    refine j_iload_n jb dJ6_numberOfTrailingZeros_0f7a4_44 1 rfl ?_
    refine j_bipush jb dJ6_numberOfTrailingZeros_0f7a4_45 (by decide) ?_
    refine j_iushr jb dJ6_numberOfTrailingZeros_0f7a4_47 (by decide) (by decide) ?_
    refine j_istore_n (lv' := [(0, .int (iI (8191 / 2 ^ (8 : Int).toNat))), (1, .int (iI (1 + 8)))]) jb dJ6_numberOfTrailingZeros_0f7a4_48 rfl (by decide) rfl ?_
    refine j_iload_n jb dJ6_numberOfTrailingZeros_0f7a4_49 0 rfl ?_
    refine j_bipush jb dJ6_numberOfTrailingZeros_0f7a4_50 (by decide) ?_
    refine j_icmp_le (tgt := 62) jb dJ6_numberOfTrailingZeros_0f7a4_52 (by decide) (by decide) (by decide) (fun h => absurd h (by decide)) (fun _ => ?_)
    refine j_iinc (lv' := [(1, .int (iI ((1 + 8) + 4))), (0, .int (iI (8191 / 2 ^ (8 : Int).toNat)))]) jb dJ6_numberOfTrailingZeros_0f7a4_55 1 rfl (by decide) rfl ?_
    refine j_iload_n jb dJ6_numberOfTrailingZeros_0f7a4_58 1 rfl ?_
    refine j_iconst jb dJ6_numberOfTrailingZeros_0f7a4_59 ?_
    refine j_iushr jb dJ6_numberOfTrailingZeros_0f7a4_60 (by decide) (by decide) ?_
    refine j_istore_n (lv' := [(0, .int (iI ((8191 / 2 ^ (8 : Int).toNat) / 2 ^ (4 : Int).toNat))), (1, .int (iI ((1 + 8) + 4)))]) jb dJ6_numberOfTrailingZeros_0f7a4_61 rfl (by decide) rfl ?_
    refine j_iload_n jb dJ6_numberOfTrailingZeros_0f7a4_62 0 rfl ?_
    refine j_iconst jb dJ6_numberOfTrailingZeros_0f7a4_63 ?_
    refine j_icmp_le (tgt := 74) jb dJ6_numberOfTrailingZeros_0f7a4_64 (by decide) (by decide) (by decide) (fun _ => ?_) (fun h => absurd h (by decide))
    refine j_iload_n jb dJ6_numberOfTrailingZeros_0f7a4_74 1 rfl ?_
    refine j_iload_n jb dJ6_numberOfTrailingZeros_0f7a4_75 0 rfl ?_
    refine j_iconst jb dJ6_numberOfTrailingZeros_0f7a4_76 ?_
    refine j_iushr jb dJ6_numberOfTrailingZeros_0f7a4_77 (by decide) (by decide) ?_
    refine j_iadd jb dJ6_numberOfTrailingZeros_0f7a4_78 ?_
    refine j_norm (lv' := []) (st' := [.int (iI (((1 + 8) + 4) + (((8191 / 2 ^ (8 : Int).toNat) / 2 ^ (4 : Int).toNat) / 2 ^ (1 : Int).toNat)))]) (ws' := []) [] [] rfl rfl (by decide) rfl ?_
    exact j_iret jb jr dJ6_numberOfTrailingZeros_0f7a4_79 ⟨_, rfl, rfl, ⟨by decide, by decide, hz2, hz3⟩⟩
  · skip
    obtain rfl : m = 16383 := by rw [em, e]; rfl
    rw [e] at hz2 hz3
    refine j_iload_n jb dJ6_numberOfTrailingZeros_0f7a4_8 0 rfl ?_
    refine j_if_gt (tgt := 17) jb dJ6_numberOfTrailingZeros_0f7a4_9 (by decide) (by decide) (fun _ => ?_) (fun h => absurd h (by decide))
    refine j_iconst jb dJ6_numberOfTrailingZeros_0f7a4_17 ?_
    refine j_istore_n (lv' := [(1, .int (iI 1)), (0, .int (iI 16383))]) jb dJ6_numberOfTrailingZeros_0f7a4_18 rfl (by decide) rfl ?_
    refine j_iload_n jb dJ6_numberOfTrailingZeros_0f7a4_19 1 rfl ?_
    refine j_ldcw (z := 65536) jb q_J6_264 rfl dJ6_numberOfTrailingZeros_0f7a4_20 ?_
    refine j_icmp_le (tgt := 34) jb dJ6_numberOfTrailingZeros_0f7a4_23 (by decide) (by decide) (by decide) (fun _ => ?_) (fun h => absurd h (by decide))
    refine j_iload_n jb dJ6_numberOfTrailingZeros_0f7a4_34 1 rfl ?_
    refine j_sipush jb dJ6_numberOfTrailingZeros_0f7a4_35 (by decide) ?_
    refine j_icmp_le (tgt := 49) jb dJ6_numberOfTrailingZeros_0f7a4_38 (by decide) (by decide) (by decide) (fun h => absurd h (by decide)) (fun _ => ?_)
    refine j_iinc (lv' := [(1, .int (iI (1 + 8))), (0, .int (iI 16383))]) jb dJ6_numberOfTrailingZeros_0f7a4_41 0 rfl (by decide) rfl ?_
    refine j_iload_n jb dJ6_numberOfTrailingZeros_0f7a4_44 1 rfl ?_
    refine j_bipush jb dJ6_numberOfTrailingZeros_0f7a4_45 (by decide) ?_
    refine j_iushr jb dJ6_numberOfTrailingZeros_0f7a4_47 (by decide) (by decide) ?_
    refine j_istore_n (lv' := [(0, .int (iI (16383 / 2 ^ (8 : Int).toNat))), (1, .int (iI (1 + 8)))]) jb dJ6_numberOfTrailingZeros_0f7a4_48 rfl (by decide) rfl ?_
    refine j_iload_n jb dJ6_numberOfTrailingZeros_0f7a4_49 0 rfl ?_
    refine j_bipush jb dJ6_numberOfTrailingZeros_0f7a4_50 (by decide) ?_
    refine j_icmp_le (tgt := 62) jb dJ6_numberOfTrailingZeros_0f7a4_52 (by decide) (by decide) (by decide) (fun h => absurd h (by decide)) (fun _ => ?_)
    refine j_iinc (lv' := [(1, .int (iI ((1 + 8) + 4))), (0, .int (iI (16383 / 2 ^ (8 : Int).toNat)))]) jb dJ6_numberOfTrailingZeros_0f7a4_55 1 rfl (by decide) rfl ?_
    refine j_iload_n jb dJ6_numberOfTrailingZeros_0f7a4_58 1 rfl ?_
    refine j_iconst jb dJ6_numberOfTrailingZeros_0f7a4_59 ?_
    refine j_iushr jb dJ6_numberOfTrailingZeros_0f7a4_60 (by decide) (by decide) ?_
    refine j_istore_n (lv' := [(0, .int (iI ((16383 / 2 ^ (8 : Int).toNat) / 2 ^ (4 : Int).toNat))), (1, .int (iI ((1 + 8) + 4)))]) jb dJ6_numberOfTrailingZeros_0f7a4_61 rfl (by decide) rfl ?_
    refine j_iload_n jb dJ6_numberOfTrailingZeros_0f7a4_62 0 rfl ?_
    refine j_iconst jb dJ6_numberOfTrailingZeros_0f7a4_63 ?_
    refine j_icmp_le (tgt := 74) jb dJ6_numberOfTrailingZeros_0f7a4_64 (by decide) (by decide) (by decide) (fun _ => ?_) (fun h => absurd h (by decide))
    refine j_iload_n jb dJ6_numberOfTrailingZeros_0f7a4_74 1 rfl ?_
    refine j_iload_n jb dJ6_numberOfTrailingZeros_0f7a4_75 0 rfl ?_
    refine j_iconst jb dJ6_numberOfTrailingZeros_0f7a4_76 ?_
    refine j_iushr jb dJ6_numberOfTrailingZeros_0f7a4_77 (by decide) (by decide) ?_
    refine j_iadd jb dJ6_numberOfTrailingZeros_0f7a4_78 ?_
    refine j_norm (lv' := []) (st' := [.int (iI (((1 + 8) + 4) + (((16383 / 2 ^ (8 : Int).toNat) / 2 ^ (4 : Int).toNat) / 2 ^ (1 : Int).toNat)))]) (ws' := []) [] [] rfl rfl (by decide) rfl ?_
    exact j_iret jb jr dJ6_numberOfTrailingZeros_0f7a4_79 ⟨_, rfl, rfl, ⟨by decide, by decide, hz2, hz3⟩⟩
  · skip
    obtain rfl : m = 32767 := by rw [em, e]; rfl
    rw [e] at hz2 hz3
    refine j_iload_n jb dJ6_numberOfTrailingZeros_0f7a4_8 0 rfl ?_
    refine j_if_gt (tgt := 17) jb dJ6_numberOfTrailingZeros_0f7a4_9 (by decide) (by decide) (fun _ => ?_) (fun h => absurd h (by decide))
    refine j_iconst jb dJ6_numberOfTrailingZeros_0f7a4_17 ?_
    refine j_istore_n (lv' := [(1, .int (iI 1)), (0, .int (iI 32767))]) jb dJ6_numberOfTrailingZeros_0f7a4_18 rfl (by decide) rfl ?_
    refine j_iload_n jb dJ6_numberOfTrailingZeros_0f7a4_19 1 rfl ?_
    refine j_ldcw (z := 65536) jb q_J6_264 rfl dJ6_numberOfTrailingZeros_0f7a4_20 ?_
    refine j_icmp_le (tgt := 34) jb dJ6_numberOfTrailingZeros_0f7a4_23 (by decide) (by decide) (by decide) (fun _ => ?_) (fun h => absurd h (by decide))
    refine j_iload_n jb dJ6_numberOfTrailingZeros_0f7a4_34 1 rfl ?_
    refine j_sipush jb dJ6_numberOfTrailingZeros_0f7a4_35 (by decide) ?_
    refine j_icmp_le (tgt := 49) jb dJ6_numberOfTrailingZeros_0f7a4_38 (by decide) (by decide) (by decide) (fun h => absurd h (by decide)) (fun _ => ?_)
    refine j_iinc (lv' := [(1, .int (iI (1 + 8))), (0, .int (iI 32767))]) jb dJ6_numberOfTrailingZeros_0f7a4_41 0 rfl (by decide) rfl ?_
    refine j_iload_n jb dJ6_numberOfTrailingZeros_0f7a4_44 1 rfl ?_
    refine j_bipush jb dJ6_numberOfTrailingZeros_0f7a4_45 (by decide) ?_
    refine j_iushr jb dJ6_numberOfTrailingZeros_0f7a4_47 (by decide) (by decide) ?_
    refine j_istore_n (lv' := [(0, .int (iI (32767 / 2 ^ (8 : Int).toNat))), (1, .int (iI (1 + 8)))]) jb dJ6_numberOfTrailingZeros_0f7a4_48 rfl (by decide) rfl ?_
    refine j_iload_n jb dJ6_numberOfTrailingZeros_0f7a4_49 0 rfl ?_
    refine j_bipush jb dJ6_numberOfTrailingZeros_0f7a4_50 (by decide) ?_
    refine j_icmp_le (tgt := 62) jb dJ6_numberOfTrailingZeros_0f7a4_52 (by decide) (by decide) (by decide) (fun h => absurd h (by decide)) (fun _ => ?_)
    refine j_iinc (lv' := [(1, .int (iI ((1 + 8) + 4))), (0, .int (iI (32767 / 2 ^ (8 : Int).toNat)))]) jb dJ6_numberOfTrailingZeros_0f7a4_55 1 rfl (by decide) rfl ?_
    refine j_iload_n jb dJ6_numberOfTrailingZeros_0f7a4_58 1 rfl ?_
    refine j_iconst jb dJ6_numberOfTrailingZeros_0f7a4_59 ?_
    refine j_iushr jb dJ6_numberOfTrailingZeros_0f7a4_60 (by decide) (by decide) ?_
    refine j_istore_n (lv' := [(0, .int (iI ((32767 / 2 ^ (8 : Int).toNat) / 2 ^ (4 : Int).toNat))), (1, .int (iI ((1 + 8) + 4)))]) jb dJ6_numberOfTrailingZeros_0f7a4_61 rfl (by decide) rfl ?_
    refine j_iload_n jb dJ6_numberOfTrailingZeros_0f7a4_62 0 rfl ?_
    refine j_iconst jb dJ6_numberOfTrailingZeros_0f7a4_63 ?_
    refine j_icmp_le (tgt := 74) jb dJ6_numberOfTrailingZeros_0f7a4_64 (by decide) (by decide) (by decide) (fun h => absurd h (by decide)) (fun _ => ?_)
    refine j_iinc (lv' := [(1, .int (iI (((1 + 8) + 4) + 2))), (0, .int (iI ((32767 / 2 ^ (8 : Int).toNat) / 2 ^ (4 : Int).toNat)))]) jb dJ6_numberOfTrailingZeros_0f7a4_67 1 rfl (by decide) rfl ?_
    refine j_iload_n jb dJ6_numberOfTrailingZeros_0f7a4_70 1 rfl ?_
    refine j_iconst jb dJ6_numberOfTrailingZeros_0f7a4_71 ?_
    refine j_iushr jb dJ6_numberOfTrailingZeros_0f7a4_72 (by decide) (by decide) ?_
    refine j_istore_n (lv' := [(0, .int (iI (((32767 / 2 ^ (8 : Int).toNat) / 2 ^ (4 : Int).toNat) / 2 ^ (2 : Int).toNat))), (1, .int (iI (((1 + 8) + 4) + 2)))]) jb dJ6_numberOfTrailingZeros_0f7a4_73 rfl (by decide) rfl ?_
    refine j_iload_n jb dJ6_numberOfTrailingZeros_0f7a4_74 1 rfl ?_
    refine j_iload_n jb dJ6_numberOfTrailingZeros_0f7a4_75 0 rfl ?_
    refine j_iconst jb dJ6_numberOfTrailingZeros_0f7a4_76 ?_
    refine j_iushr jb dJ6_numberOfTrailingZeros_0f7a4_77 (by decide) (by decide) ?_
    refine j_iadd jb dJ6_numberOfTrailingZeros_0f7a4_78 ?_
    refine j_norm (lv' := []) (st' := [.int (iI ((((1 + 8) + 4) + 2) + ((((32767 / 2 ^ (8 : Int).toNat) / 2 ^ (4 : Int).toNat) / 2 ^ (2 : Int).toNat) / 2 ^ (1 : Int).toNat)))]) (ws' := []) [] [] rfl rfl (by decide) rfl ?_
    exact j_iret jb jr dJ6_numberOfTrailingZeros_0f7a4_79 ⟨_, rfl, rfl, ⟨by decide, by decide, hz2, hz3⟩⟩
  · skip
    obtain rfl : m = 65535 := by rw [em, e]; rfl
    rw [e] at hz2 hz3
    refine j_iload_n jb dJ6_numberOfTrailingZeros_0f7a4_8 0 rfl ?_
    refine j_if_gt (tgt := 17) jb dJ6_numberOfTrailingZeros_0f7a4_9 (by decide) (by decide) (fun _ => ?_) (fun h => absurd h (by decide))
    refine j_iconst jb dJ6_numberOfTrailingZeros_0f7a4_17 ?_
    refine j_istore_n (lv' := [(1, .int (iI 1)), (0, .int (iI 65535))]) jb dJ6_numberOfTrailingZeros_0f7a4_18 rfl (by decide) rfl ?_
    refine j_iload_n jb dJ6_numberOfTrailingZeros_0f7a4_19 1 rfl ?_
    refine j_ldcw (z := 65536) jb q_J6_264 rfl dJ6_numberOfTrailingZeros_0f7a4_20 ?_
    refine j_icmp_le (tgt := 34) jb dJ6_numberOfTrailingZeros_0f7a4_23 (by decide) (by decide) (by decide) (fun _ => ?_) (fun h => absurd h (by decide))
    refine j_iload_n jb dJ6_numberOfTrailingZeros_0f7a4_34 1 rfl ?_
    refine j_sipush jb dJ6_numberOfTrailingZeros_0f7a4_35 (by decide) ?_
    refine j_icmp_le (tgt := 49) jb dJ6_numberOfTrailingZeros_0f7a4_38 (by decide) (by decide) (by decide) (fun h => absurd h (by decide)) (fun _ => ?_)
    refine j_iinc (lv' := [(1, .int (iI (1 + 8))), (0, .int (iI 65535))]) jb dJ6_numberOfTrailingZeros_0f7a4_41 0 rfl (by decide) rfl ?_
    refine j_iload_n jb dJ6_numberOfTrailingZeros_0f7a4_44 1 rfl ?_
    refine j_bipush jb dJ6_numberOfTrailingZeros_0f7a4_45 (by decide) ?_
    refine j_iushr jb dJ6_numberOfTrailingZeros_0f7a4_47 (by decide) (by decide) ?_
    refine j_istore_n (lv' := [(0, .int (iI (65535 / 2 ^ (8 : Int).toNat))), (1, .int (iI (1 + 8)))]) jb dJ6_numberOfTrailingZeros_0f7a4_48 rfl (by decide) rfl ?_
    refine j_iload_n jb dJ6_numberOfTrailingZeros_0f7a4_49 0 rfl ?_
    refine j_bipush jb dJ6_numberOfTrailingZeros_0f7a4_50 (by decide) ?_
    refine j_icmp_le (tgt := 62) jb dJ6_numberOfTrailingZeros_0f7a4_52 (by decide) (by decide) (by decide) (fun h => absurd h (by decide)) (fun _ => ?_)
    refine j_iinc (lv' := [(1, .int (iI ((1 + 8) + 4))), (0, .int (iI (65535 / 2 ^ (8 : Int).toNat)))]) jb dJ6_numberOfTrailingZeros_0f7a4_55 1 rfl (by decide) rfl ?_
    refine j_iload_n jb dJ6_numberOfTrailingZeros_0f7a4_58 1 rfl ?_
    refine j_iconst jb dJ6_numberOfTrailingZeros_0f7a4_59 ?_
    refine j_iushr jb dJ6_numberOfTrailingZeros_0f7a4_60 (by decide) (by decide) ?_
    refine j_istore_n (lv' := [(0, .int (iI ((65535 / 2 ^ (8 : Int).toNat) / 2 ^ (4 : Int).toNat))), (1, .int (iI ((1 + 8) + 4)))]) jb dJ6_numberOfTrailingZeros_0f7a4_61 rfl (by decide) rfl ?_
    refine j_iload_n jb dJ6_numberOfTrailingZeros_0f7a4_62 0 rfl ?_
    refine j_iconst jb dJ6_numberOfTrailingZeros_0f7a4_63 ?_
    refine j_icmp_le (tgt := 74) jb dJ6_numberOfTrailingZeros_0f7a4_64 (by decide) (by decide) (by decide) (fun h => absurd h (by decide)) (fun _ => ?_)
    refine j_iinc (lv' := [(1, .int (iI (((1 + 8) + 4) + 2))), (0, .int (iI ((65535 / 2 ^ (8 : Int).toNat) / 2 ^ (4 : Int).toNat)))]) jb dJ6_numberOfTrailingZeros_0f7a4_67 1 rfl (by decide) rfl ?_
    refine j_iload_n jb dJ6_numberOfTrailingZeros_0f7a4_70 1 rfl ?_
    refine j_iconst jb dJ6_numberOfTrailingZeros_0f7a4_71 ?_
    refine j_iushr jb dJ6_numberOfTrailingZeros_0f7a4_72 (by decide) (by decide) ?_
    refine j_istore_n (lv' := [(0, .int (iI (((65535 / 2 ^ (8 : Int).toNat) / 2 ^ (4 : Int).toNat) / 2 ^ (2 : Int).toNat))), (1, .int (iI (((1 + 8) + 4) + 2)))]) jb dJ6_numberOfTrailingZeros_0f7a4_73 rfl (by decide) rfl ?_
    refine j_iload_n jb dJ6_numberOfTrailingZeros_0f7a4_74 1 rfl ?_
    refine j_iload_n jb dJ6_numberOfTrailingZeros_0f7a4_75 0 rfl ?_
    refine j_iconst jb dJ6_numberOfTrailingZeros_0f7a4_76 ?_
    refine j_iushr jb dJ6_numberOfTrailingZeros_0f7a4_77 (by decide) (by decide) ?_
    refine j_iadd jb dJ6_numberOfTrailingZeros_0f7a4_78 ?_
    refine j_norm (lv' := []) (st' := [.int (iI ((((1 + 8) + 4) + 2) + ((((65535 / 2 ^ (8 : Int).toNat) / 2 ^ (4 : Int).toNat) / 2 ^ (2 : Int).toNat) / 2 ^ (1 : Int).toNat)))]) (ws' := []) [] [] rfl rfl (by decide) rfl ?_
    exact j_iret jb jr dJ6_numberOfTrailingZeros_0f7a4_79 ⟨_, rfl, rfl, ⟨by decide, by decide, hz2, hz3⟩⟩

set_option maxHeartbeats 4000000 in
set_option maxRecDepth 100000 in
theorem C_J6_numberOfLeadingZeros_0f7a4 (l : Launch) (g : GG) (u : Int) (hu : 0 ≤ u ∧ u < 2147483648) : Ctr l g yJ6_numberOfLeadingZeros_0f7a4 cJ6_numberOfLeadingZeros_0f7a4 2 (some .int) 0 0 0 0 [.int (iI u)] [] (fun vv ww => ∃ (r : Int), vv = some (.int (iI r)) ∧ ww = [] ∧ isBl u (32 - r)) := by
  refine Ctr.of [(0, .int (iI u))] (by decide) (Nat.le_of_ble_eq_true rfl) rfl ?_
  intro x hxl hxg jb jr hin
  subst hxl; subst hxg
  refine j_iload_n jb dJ6_numberOfLeadingZeros_0f7a4_0 0 rfl ?_
  refine j_if_gt (tgt := 15) jb dJ6_numberOfLeadingZeros_0f7a4_1 (by decide) (by omega) (fun c_1 => ?_) (fun c_1 => ?_)
  · skip
    refine j_bipush jb dJ6_numberOfLeadingZeros_0f7a4_15 (by decide) ?_
    refine j_istore_n (lv' := [(1, .int (iI 31)), (0, .int (iI u))]) jb dJ6_numberOfLeadingZeros_0f7a4_17 rfl (by decide) rfl ?_
    refine j_iload_n jb dJ6_numberOfLeadingZeros_0f7a4_18 1 rfl ?_
    refine j_ldcw (z := 65536) jb q_J6_264 rfl dJ6_numberOfLeadingZeros_0f7a4_19 ?_
    refine j_icmp_lt (tgt := 33) jb dJ6_numberOfLeadingZeros_0f7a4_22 (by decide) (by omega) (by omega) (fun c_22 => ?_) (fun c_22 => ?_)
    · skip
      refine j_iload_n jb dJ6_numberOfLeadingZeros_0f7a4_33 1 rfl ?_
      refine j_sipush jb dJ6_numberOfLeadingZeros_0f7a4_34 (by decide) ?_
      refine j_icmp_lt (tgt := 48) jb dJ6_numberOfLeadingZeros_0f7a4_37 (by decide) (by omega) (by omega) (fun c_37 => ?_) (fun c_37 => ?_)
      · skip
        refine j_iload_n jb dJ6_numberOfLeadingZeros_0f7a4_48 1 rfl ?_
        refine j_bipush jb dJ6_numberOfLeadingZeros_0f7a4_49 (by decide) ?_
        refine j_icmp_lt (tgt := 61) jb dJ6_numberOfLeadingZeros_0f7a4_51 (by decide) (by omega) (by omega) (fun c_51 => ?_) (fun c_51 => ?_)
        · skip
          refine j_iload_n jb dJ6_numberOfLeadingZeros_0f7a4_61 1 rfl ?_
          refine j_iconst jb dJ6_numberOfLeadingZeros_0f7a4_62 ?_
          refine j_icmp_lt (tgt := 73) jb dJ6_numberOfLeadingZeros_0f7a4_63 (by decide) (by omega) (by omega) (fun c_63 => ?_) (fun c_63 => ?_)
          · skip
            refine j_iload_n jb dJ6_numberOfLeadingZeros_0f7a4_73 0 rfl ?_
            refine j_iload_n jb dJ6_numberOfLeadingZeros_0f7a4_74 1 rfl ?_
            refine j_iconst jb dJ6_numberOfLeadingZeros_0f7a4_75 ?_
            refine j_iushr jb dJ6_numberOfLeadingZeros_0f7a4_76 (by omega) (by decide) ?_
            refine j_topi (u / 2) rfl ?_
            refine j_geni (fun tt e_tt => ?_)
            refine j_isub jb dJ6_numberOfLeadingZeros_0f7a4_77 ?_
            refine j_norm (lv' := []) (st' := [.int (iI (31 - tt))]) (ws' := []) [] [] rfl rfl (by decide) rfl ?_
            exact j_iret jb jr dJ6_numberOfLeadingZeros_0f7a4_78 ⟨_, rfl, rfl, (by rcases (show tt = 0 ∨ tt = 1 by omega) with ht | ht <;> first | exact bl_case 0 1 (by decide) (by omega) (by omega) (by omega) | exact bl_case 1 2 (by decide) (by omega) (by omega) (by omega) | exact bl_case 2 4 (by decide) (by omega) (by omega) (by omega) | exact bl_case 3 8 (by decide) (by omega) (by omega) (by omega) | exact bl_case 4 16 (by decide) (by omega) (by omega) (by omega) | exact bl_case 5 32 (by decide) (by omega) (by omega) (by omega) | exact bl_case 6 64 (by decide) (by omega) (by omega) (by omega) | exact bl_case 7 128 (by decide) (by omega) (by omega) (by omega) | exact bl_case 8 256 (by decide) (by omega) (by omega) (by omega) | exact bl_case 9 512 (by decide) (by omega) (by omega) (by omega) | exact bl_case 10 1024 (by decide) (by omega) (by omega) (by omega) | exact bl_case 11 2048 (by decide) (by omega) (by omega) (by omega) | exact bl_case 12 4096 (by decide) (by omega) (by omega) (by omega) | exact bl_case 13 8192 (by decide) (by omega) (by omega) (by omega) | exact bl_case 14 16384 (by decide) (by omega) (by omega) (by omega) | exact bl_case 15 32768 (by decide) (by omega) (by omega) (by omega) | exact bl_case 16 65536 (by decide) (by omega) (by omega) (by omega) | exact bl_case 17 131072 (by decide) (by omega) (by omega) (by omega) | exact bl_case 18 262144 (by decide) (by omega) (by omega) (by omega) | exact bl_case 19 524288 (by decide) (by omega) (by omega) (by omega) | exact bl_case 20 1048576 (by decide) (by omega) (by omega) (by omega) | exact bl_case 21 2097152 (by decide) (by omega) (by omega) (by omega) | exact bl_case 22 4194304 (by decide) (by omega) (by omega) (by omega) | exact bl_case 23 8388608 (by decide) (by omega) (by omega) (by omega) | exact bl_case 24 16777216 (by decide) (by omega) (by omega) (by omega) | exact bl_case 25 33554432 (by decide) (by omega) (by omega) (by omega) | exact bl_case 26 67108864 (by decide) (by omega) (by omega) (by omega) | exact bl_case 27 134217728 (by decide) (by omega) (by omega) (by omega) | exact bl_case 28 268435456 (by decide) (by omega) (by omega) (by omega) | exact bl_case 29 536870912 (by decide) (by omega) (by omega) (by omega) | exact bl_case 30 1073741824 (by decide) (by omega) (by omega) (by omega))⟩
          · skip
            refine j_iinc (lv' := [(1, .int (iI (31 + -2))), (0, .int (iI u))]) jb dJ6_numberOfLeadingZeros_0f7a4_66 0 rfl (by decide) rfl ?_
            refine j_iload_n jb dJ6_numberOfLeadingZeros_0f7a4_69 1 rfl ?_
            refine j_iconst jb dJ6_numberOfLeadingZeros_0f7a4_70 ?_
            refine j_iushr jb dJ6_numberOfLeadingZeros_0f7a4_71 (by omega) (by decide) ?_
            refine j_topi (u / 4) rfl ?_
            refine j_istore_n (lv' := [(0, .int (iI (u / 4))), (1, .int (iI (31 + -2)))]) jb dJ6_numberOfLeadingZeros_0f7a4_72 rfl (by decide) rfl ?_
            refine j_iload_n jb dJ6_numberOfLeadingZeros_0f7a4_73 1 rfl ?_
            refine j_iload_n jb dJ6_numberOfLeadingZeros_0f7a4_74 0 rfl ?_
            refine j_iconst jb dJ6_numberOfLeadingZeros_0f7a4_75 ?_
            refine j_iushr jb dJ6_numberOfLeadingZeros_0f7a4_76 (by omega) (by decide) ?_
            refine j_topi ((u / 4) / 2) rfl ?_
            refine j_geni (fun tt e_tt => ?_)
            refine j_isub jb dJ6_numberOfLeadingZeros_0f7a4_77 ?_
            refine j_norm (lv' := []) (st' := [.int (iI ((31 + -2) - tt))]) (ws' := []) [] [] rfl rfl (by decide) rfl ?_
            exact j_iret jb jr dJ6_numberOfLeadingZeros_0f7a4_78 ⟨_, rfl, rfl, (by rcases (show tt = 0 ∨ tt = 1 by omega) with ht | ht <;> first | exact bl_case 0 1 (by decide) (by omega) (by omega) (by omega) | exact bl_case 1 2 (by decide) (by omega) (by omega) (by omega) | exact bl_case 2 4 (by decide) (by omega) (by omega) (by omega) | exact bl_case 3 8 (by decide) (by omega) (by omega) (by omega) | exact bl_case 4 16 (by decide) (by omega) (by omega) (by omega) | exact bl_case 5 32 (by decide) (by omega) (by omega) (by omega) | exact bl_case 6 64 (by decide) (by omega) (by omega) (by omega) | exact bl_case 7 128 (by decide) (by omega) (by omega) (by omega) | exact bl_case 8 256 (by decide) (by omega) (by omega) (by omega) | exact bl_case 9 512 (by decide) (by omega) (by omega) (by omega) | exact bl_case 10 1024 (by decide) (by omega) (by omega) (by omega) | exact bl_case 11 2048 (by decide) (by omega) (by omega) (by omega) | exact bl_case 12 4096 (by decide) (by omega) (by omega) (by omega) | exact bl_case 13 8192 (by decide) (by omega) (by omega) (by omega) | exact bl_case 14 16384 (by decide) (by omega) (by omega) (by omega) | exact bl_case 15 32768 (by decide) (by omega) (by omega) (by omega) | exact bl_case 16 65536 (by decide) (by omega) (by omega) (by omega) | exact bl_case 17 131072 (by decide) (by omega) (by omega) (by omega) | exact bl_case 18 262144 (by decide) (by omega) (by omega) (by omega) | exact bl_case 19 524288 (by decide) (by omega) (by omega) (by omega) | exact bl_case 20 1048576 (by decide) (by omega) (by omega) (by omega) | exact bl_case 21 2097152 (by decide) (by omega) (by omega) (by omega) | exact bl_case 22 4194304 (by decide) (by omega) (by omega) (by omega) | exact bl_case 23 8388608 (by decide) (by omega) (by omega) (by omega) | exact bl_case 24 16777216 (by decide) (by omega) (by omega) (by omega) | exact bl_case 25 33554432 (by decide) (by omega) (by omega) (by omega) | exact bl_case 26 67108864 (by decide) (by omega) (by omega) (by omega) | exact bl_case 27 134217728 (by decide) (by omega) (by omega) (by omega) | exact bl_case 28 268435456 (by decide) (by omega) (by omega) (by omega) | exact bl_case 29 536870912 (by decide) (by omega) (by omega) (by omega) | exact bl_case 30 1073741824 (by decide) (by omega) (by omega) (by omega))⟩
        · skip
          refine j_iinc (lv' := [(1, .int (iI (31 + -4))), (0, .int (iI u))]) jb dJ6_numberOfLeadingZeros_0f7a4_54 0 rfl (by decide) rfl ?_
          refine j_iload_n jb dJ6_numberOfLeadingZeros_0f7a4_57 1 rfl ?_
          refine j_iconst jb dJ6_numberOfLeadingZeros_0f7a4_58 ?_
          refine j_iushr jb dJ6_numberOfLeadingZeros_0f7a4_59 (by omega) (by decide) ?_
          refine j_topi (u / 16) rfl ?_
          refine j_istore_n (lv' := [(0, .int (iI (u / 16))), (1, .int (iI (31 + -4)))]) jb dJ6_numberOfLeadingZeros_0f7a4_60 rfl (by decide) rfl ?_
          refine j_iload_n jb dJ6_numberOfLeadingZeros_0f7a4_61 0 rfl ?_
          refine j_iconst jb dJ6_numberOfLeadingZeros_0f7a4_62 ?_
          refine j_icmp_lt (tgt := 73) jb dJ6_numberOfLeadingZeros_0f7a4_63 (by decide) (by omega) (by omega) (fun c_63 => ?_) (fun c_63 => ?_)
          · skip
            refine j_iload_n jb dJ6_numberOfLeadingZeros_0f7a4_73 1 rfl ?_
            refine j_iload_n jb dJ6_numberOfLeadingZeros_0f7a4_74 0 rfl ?_
            refine j_iconst jb dJ6_numberOfLeadingZeros_0f7a4_75 ?_
            refine j_iushr jb dJ6_numberOfLeadingZeros_0f7a4_76 (by omega) (by decide) ?_
            refine j_topi ((u / 16) / 2) rfl ?_
            refine j_geni (fun tt e_tt => ?_)
            refine j_isub jb dJ6_numberOfLeadingZeros_0f7a4_77 ?_
            refine j_norm (lv' := []) (st' := [.int (iI ((31 + -4) - tt))]) (ws' := []) [] [] rfl rfl (by decide) rfl ?_
            exact j_iret jb jr dJ6_numberOfLeadingZeros_0f7a4_78 ⟨_, rfl, rfl, (by rcases (show tt = 0 ∨ tt = 1 by omega) with ht | ht <;> first | exact bl_case 0 1 (by decide) (by omega) (by omega) (by omega) | exact bl_case 1 2 (by decide) (by omega) (by omega) (by omega) | exact bl_case 2 4 (by decide) (by omega) (by omega) (by omega) | exact bl_case 3 8 (by decide) (by omega) (by omega) (by omega) | exact bl_case 4 16 (by decide) (by omega) (by omega) (by omega) | exact bl_case 5 32 (by decide) (by omega) (by omega) (by omega) | exact bl_case 6 64 (by decide) (by omega) (by omega) (by omega) | exact bl_case 7 128 (by decide) (by omega) (by omega) (by omega) | exact bl_case 8 256 (by decide) (by omega) (by omega) (by omega) | exact bl_case 9 512 (by decide) (by omega) (by omega) (by omega) | exact bl_case 10 1024 (by decide) (by omega) (by omega) (by omega) | exact bl_case 11 2048 (by decide) (by omega) (by omega) (by omega) | exact bl_case 12 4096 (by decide) (by omega) (by omega) (by omega) | exact bl_case 13 8192 (by decide) (by omega) (by omega) (by omega) | exact bl_case 14 16384 (by decide) (by omega) (by omega) (by omega) | exact bl_case 15 32768 (by decide) (by omega) (by omega) (by omega) | exact bl_case 16 65536 (by decide) (by omega) (by omega) (by omega) | exact bl_case 17 131072 (by decide) (by omega) (by omega) (by omega) | exact bl_case 18 262144 (by decide) (by omega) (by omega) (by omega) | exact bl_case 19 524288 (by decide) (by omega) (by omega) (by omega) | exact bl_case 20 1048576 (by decide) (by omega) (by omega) (by omega) | exact bl_case 21 2097152 (by decide) (by omega) (by omega) (by omega) | exact bl_case 22 4194304 (by decide) (by omega) (by omega) (by omega) | exact bl_case 23 8388608 (by decide) (by omega) (by omega) (by omega) | exact bl_case 24 16777216 (by decide) (by omega) (by omega) (by omega) | exact bl_case 25 33554432 (by decide) (by omega) (by omega) (by omega) | exact bl_case 26 67108864 (by decide) (by omega) (by omega) (by omega) | exact bl_case 27 134217728 (by decide) (by omega) (by omega) (by omega) | exact bl_case 28 268435456 (by decide) (by omega) (by omega) (by omega) | exact bl_case 29 536870912 (by decide) (by omega) (by omega) (by omega) | exact bl_case 30 1073741824 (by decide) (by omega) (by omega) (by omega))⟩
          · skip
            refine j_iinc (lv' := [(1, .int (iI ((31 + -4) + -2))), (0, .int (iI (u / 16)))]) jb dJ6_numberOfLeadingZeros_0f7a4_66 1 rfl (by decide) rfl ?_
            refine j_iload_n jb dJ6_numberOfLeadingZeros_0f7a4_69 1 rfl ?_
            refine j_iconst jb dJ6_numberOfLeadingZeros_0f7a4_70 ?_
            refine j_iushr jb dJ6_numberOfLeadingZeros_0f7a4_71 (by omega) (by decide) ?_
            refine j_topi ((u / 16) / 4) rfl ?_
            refine j_istore_n (lv' := [(0, .int (iI ((u / 16) / 4))), (1, .int (iI ((31 + -4) + -2)))]) jb dJ6_numberOfLeadingZeros_0f7a4_72 rfl (by decide) rfl ?_
            refine j_iload_n jb dJ6_numberOfLeadingZeros_0f7a4_73 1 rfl ?_
            refine j_iload_n jb dJ6_numberOfLeadingZeros_0f7a4_74 0 rfl ?_
            refine j_iconst jb dJ6_numberOfLeadingZeros_0f7a4_75 ?_
            refine j_iushr jb dJ6_numberOfLeadingZeros_0f7a4_76 (by omega) (by decide) ?_
            refine j_topi (((u / 16) / 4) / 2) rfl ?_
            refine j_geni (fun tt e_tt => ?_)
            refine j_isub jb dJ6_numberOfLeadingZeros_0f7a4_77 ?_
            refine j_norm (lv' := []) (st' := [.int (iI (((31 + -4) + -2) - tt))]) (ws' := []) [] [] rfl rfl (by decide) rfl ?_
            exact j_iret jb jr dJ6_numberOfLeadingZeros_0f7a4_78 ⟨_, rfl, rfl, (by rcases (show tt = 0 ∨ tt = 1 by omega) with ht | ht <;> first | exact bl_case 0 1 (by decide) (by omega) (by omega) (by omega) | exact bl_case 1 2 (by decide) (by omega) (by omega) (by omega) | exact bl_case 2 4 (by decide) (by omega) (by omega) (by omega) | exact bl_case 3 8 (by decide) (by omega) (by omega) (by omega) | exact bl_case 4 16 (by decide) (by omega) (by omega) (by omega) | exact bl_case 5 32 (by decide) (by omega) (by omega) (by omega) | exact bl_case 6 64 (by decide) (by omega) (by omega) (by omega) | exact bl_case 7 128 (by decide) (by omega) (by omega) (by omega) | exact bl_case 8 256 (by decide) (by omega) (by omega) (by omega) | exact bl_case 9 512 (by decide) (by omega) (by omega) (by omega) | exact bl_case 10 1024 (by decide) (by omega) (by omega) (by omega) | exact bl_case 11 2048 (by decide) (by omega) (by omega) (by omega) | exact bl_case 12 4096 (by decide) (by omega) (by omega) (by omega) | exact bl_case 13 8192 (by decide) (by omega) (by omega) (by omega) | exact bl_case 14 16384 (by decide) (by omega) (by omega) (by omega) | exact bl_case 15 32768 (by decide) (by omega) (by omega) (by omega) | exact bl_case 16 65536 (by decide) (by omega) (by omega) (by omega) | exact bl_case 17 131072 (by decide) (by omega) (by omega) (by omega) | exact bl_case 18 262144 (by decide) (by omega) (by omega) (by omega) | exact bl_case 19 524288 (by decide) (by omega) (by omega) (by omega) | exact bl_case 20 1048576 (by decide) (by omega) (by omega) (by omega) | exact bl_case 21 2097152 (by decide) (by omega) (by omega) (by omega) | exact bl_case 22 4194304 (by decide) (by omega) (by omega) (by omega) | exact bl_case 23 8388608 (by decide) (by omega) (by omega) (by omega) | exact bl_case 24 16777216 (by decide) (by omega) (by omega) (by omega) | exact bl_case 25 33554432 (by decide) (by omega) (by omega) (by omega) | exact bl_case 26 67108864 (by decide) (by omega) (by omega) (by omega) | exact bl_case 27 134217728 (by decide) (by omega) (by omega) (by omega) | exact bl_case 28 268435456 (by decide) (by omega) (by omega) (by omega) | exact bl_case 29 536870912 (by decide) (by omega) (by omega) (by omega) | exact bl_case 30 1073741824 (by decide) (by omega) (by omega) (by omega))⟩
      · skip
        refine j_iinc (lv' := [(1, .int (iI (31 + -8))), (0, .int (iI u))]) jb dJ6_numberOfLeadingZeros_0f7a4_40 0 rfl (by decide) rfl ?_
        refine j_iload_n jb dJ6_numberOfLeadingZeros_0f7a4_43 1 rfl ?_
        refine j_bipush jb dJ6_numberOfLeadingZeros_0f7a4_44 (by decide) ?_
        refine j_iushr jb dJ6_numberOfLeadingZeros_0f7a4_46 (by omega) (by decide) ?_
        refine j_topi (u / 256) rfl ?_
        refine j_istore_n (lv' := [(0, .int (iI (u / 256))), (1, .int (iI (31 + -8)))]) jb dJ6_numberOfLeadingZeros_0f7a4_47 rfl (by decide) rfl ?_
        refine j_iload_n jb dJ6_numberOfLeadingZeros_0f7a4_48 0 rfl ?_
        refine j_bipush jb dJ6_numberOfLeadingZeros_0f7a4_49 (by decide) ?_
        refine j_icmp_lt (tgt := 61) jb dJ6_numberOfLeadingZeros_0f7a4_51 (by decide) (by omega) (by omega) (fun c_51 => ?_) (fun c_51 => ?_)
        · skip
          refine j_iload_n jb dJ6_numberOfLeadingZeros_0f7a4_61 0 rfl ?_
          refine j_iconst jb dJ6_numberOfLeadingZeros_0f7a4_62 ?_
          refine j_icmp_lt (tgt := 73) jb dJ6_numberOfLeadingZeros_0f7a4_63 (by decide) (by omega) (by omega) (fun c_63 => ?_) (fun c_63 => ?_)
          · skip
            refine j_iload_n jb dJ6_numberOfLeadingZeros_0f7a4_73 1 rfl ?_
            refine j_iload_n jb dJ6_numberOfLeadingZeros_0f7a4_74 0 rfl ?_
            refine j_iconst jb dJ6_numberOfLeadingZeros_0f7a4_75 ?_
            refine j_iushr jb dJ6_numberOfLeadingZeros_0f7a4_76 (by omega) (by decide) ?_
            refine j_topi ((u / 256) / 2) rfl ?_
            refine j_geni (fun tt e_tt => ?_)
            refine j_isub jb dJ6_numberOfLeadingZeros_0f7a4_77 ?_
            refine j_norm (lv' := []) (st' := [.int (iI ((31 + -8) - tt))]) (ws' := []) [] [] rfl rfl (by decide) rfl ?_
            exact j_iret jb jr dJ6_numberOfLeadingZeros_0f7a4_78 ⟨_, rfl, rfl, (by rcases (show tt = 0 ∨ tt = 1 by omega) with ht | ht <;> first | exact bl_case 0 1 (by decide) (by omega) (by omega) (by omega) | exact bl_case 1 2 (by decide) (by omega) (by omega) (by omega) | exact bl_case 2 4 (by decide) (by omega) (by omega) (by omega) | exact bl_case 3 8 (by decide) (by omega) (by omega) (by omega) | exact bl_case 4 16 (by decide) (by omega) (by omega) (by omega) | exact bl_case 5 32 (by decide) (by omega) (by omega) (by omega) | exact bl_case 6 64 (by decide) (by omega) (by omega) (by omega) | exact bl_case 7 128 (by decide) (by omega) (by omega) (by omega) | exact bl_case 8 256 (by decide) (by omega) (by omega) (by omega) | exact bl_case 9 512 (by decide) (by omega) (by omega) (by omega) | exact bl_case 10 1024 (by decide) (by omega) (by omega) (by omega) | exact bl_case 11 2048 (by decide) (by omega) (by omega) (by omega) | exact bl_case 12 4096 (by decide) (by omega) (by omega) (by omega) | exact bl_case 13 8192 (by decide) (by omega) (by omega) (by omega) | exact bl_case 14 16384 (by decide) (by omega) (by omega) (by omega) | exact bl_case 15 32768 (by decide) (by omega) (by omega) (by omega) | exact bl_case 16 65536 (by decide) (by omega) (by omega) (by omega) | exact bl_case 17 131072 (by decide) (by omega) (by omega) (by omega) | exact bl_case 18 262144 (by decide) (by omega) (by omega) (by omega) | exact bl_case 19 524288 (by decide) (by omega) (by omega) (by omega) | exact bl_case 20 1048576 (by decide) (by omega) (by omega) (by omega) | exact bl_case 21 2097152 (by decide) (by omega) (by omega) (by omega) | exact bl_case 22 4194304 (by decide) (by omega) (by omega) (by omega) | exact bl_case 23 8388608 (by decide) (by omega) (by omega) (by omega) | exact bl_case 24 16777216 (by decide) (by omega) (by omega) (by omega) | exact bl_case 25 33554432 (by decide) (by omega) (by omega) (by omega) | exact bl_case 26 67108864 (by decide) (by omega) (by omega) (by omega) | exact bl_case 27 134217728 (by decide) (by omega) (by omega) (by omega) | exact bl_case 28 268435456 (by decide) (by omega) (by omega) (by omega) | exact bl_case 29 536870912 (by decide) (by omega) (by omega) (by omega) | exact bl_case 30 1073741824 (by decide) (by omega) (by omega) (by omega))⟩
          · skip
            refine j_iinc (lv' := [(1, .int (iI ((31 + -8) + -2))), (0, .int (iI (u / 256)))]) jb dJ6_numberOfLeadingZeros_0f7a4_66 1 rfl (by decide) rfl ?_
            refine j_iload_n jb dJ6_numberOfLeadingZeros_0f7a4_69 1 rfl ?_
            refine j_iconst jb dJ6_numberOfLeadingZeros_0f7a4_70 ?_
            refine j_iushr jb dJ6_numberOfLeadingZeros_0f7a4_71 (by omega) (by decide) ?_
            refine j_topi ((u / 256) / 4) rfl ?_
            refine j_istore_n (lv' := [(0, .int (iI ((u / 256) / 4))), (1, .int (iI ((31 + -8) + -2)))]) jb dJ6_numberOfLeadingZeros_0f7a4_72 rfl (by decide) rfl ?_
            refine j_iload_n jb dJ6_numberOfLeadingZeros_0f7a4_73 1 rfl ?_
            refine j_iload_n jb dJ6_numberOfLeadingZeros_0f7a4_74 0 rfl ?_
            refine j_iconst jb dJ6_numberOfLeadingZeros_0f7a4_75 ?_
            refine j_iushr jb dJ6_numberOfLeadingZeros_0f7a4_76 (by omega) (by decide) ?_
            refine j_topi (((u / 256) / 4) / 2) rfl ?_
            refine j_geni (fun tt e_tt => ?_)
            refine j_isub jb dJ6_numberOfLeadingZeros_0f7a4_77 ?_
            refine j_norm (lv' := []) (st' := [.int (iI (((31 + -8) + -2) - tt))]) (ws' := []) [] [] rfl rfl (by decide) rfl ?_
            exact j_iret jb jr dJ6_numberOfLeadingZeros_0f7a4_78 ⟨_, rfl, rfl, (by rcases (show tt = 0 ∨ tt = 1 by omega) with ht | ht <;> first | exact bl_case 0 1 (by decide) (by omega) (by omega) (by omega) | exact bl_case 1 2 (by decide) (by omega) (by omega) (by omega) | exact bl_case 2 4 (by decide) (by omega) (by omega) (by omega) | exact bl_case 3 8 (by decide) (by omega) (by omega) (by omega) | exact bl_case 4 16 (by decide) (by omega) (by omega) (by omega) | exact bl_case 5 32 (by decide) (by omega) (by omega) (by omega) | exact bl_case 6 64 (by decide) (by omega) (by omega) (by omega) | exact bl_case 7 128 (by decide) (by omega) (by omega) (by omega) | exact bl_case 8 256 (by decide) (by omega) (by omega) (by omega) | exact bl_case 9 512 (by decide) (by omega) (by omega) (by omega) | exact bl_case 10 1024 (by decide) (by omega) (by omega) (by omega) | exact bl_case 11 2048 (by decide) (by omega) (by omega) (by omega) | exact bl_case 12 4096 (by decide) (by omega) (by omega) (by omega) | exact bl_case 13 8192 (by decide) (by omega) (by omega) (by omega) | exact bl_case 14 16384 (by decide) (by omega) (by omega) (by omega) | exact bl_case 15 32768 (by decide) (by omega) (by omega) (by omega) | exact bl_case 16 65536 (by decide) (by omega) (by omega) (by omega) | exact bl_case 17 131072 (by decide) (by omega) (by omega) (by omega) | exact bl_case 18 262144 (by decide) (by omega) (by omega) (by omega) | exact bl_case 19 524288 (by decide) (by omega) (by omega) (by omega) | exact bl_case 20 1048576 (by decide) (by omega) (by omega) (by omega) | exact bl_case 21 2097152 (by decide) (by omega) (by omega) (by omega) | exact bl_case 22 4194304 (by decide) (by omega) (by omega) (by omega) | exact bl_case 23 8388608 (by decide) (by omega) (by omega) (by omega) | exact bl_case 24 16777216 (by decide) (by omega) (by omega) (by omega) | exact bl_case 25 33554432 (by decide) (by omega) (by omega) (by omega) | exact bl_case 26 67108864 (by decide) (by omega) (by omega) (by omega) | exact bl_case 27 134217728 (by decide) (by omega) (by omega) (by omega) | exact bl_case 28 268435456 (by decide) (by omega) (by omega) (by omega) | exact bl_case 29 536870912 (by decide) (by omega) (by omega) (by omega) | exact bl_case 30 1073741824 (by decide) (by omega) (by omega) (by omega))⟩
        · skip
          refine j_iinc (lv' := [(1, .int (iI ((31 + -8) + -4))), (0, .int (iI (u / 256)))]) jb dJ6_numberOfLeadingZeros_0f7a4_54 1 rfl (by decide) rfl ?_
          refine j_iload_n jb dJ6_numberOfLeadingZeros_0f7a4_57 1 rfl ?_
          refine j_iconst jb dJ6_numberOfLeadingZeros_0f7a4_58 ?_
          refine j_iushr jb dJ6_numberOfLeadingZeros_0f7a4_59 (by omega) (by decide) ?_
          refine j_topi ((u / 256) / 16) rfl ?_
          refine j_istore_n (lv' := [(0, .int (iI ((u / 256) / 16))), (1, .int (iI ((31 + -8) + -4)))]) jb dJ6_numberOfLeadingZeros_0f7a4_60 rfl (by decide) rfl ?_
          refine j_iload_n jb dJ6_numberOfLeadingZeros_0f7a4_61 0 rfl ?_
          refine j_iconst jb dJ6_numberOfLeadingZeros_0f7a4_62 ?_
          refine j_icmp_lt (tgt := 73) jb dJ6_numberOfLeadingZeros_0f7a4_63 (by decide) (by omega) (by omega) (fun c_63 => ?_) (fun c_63 => ?_)
          · skip
            refine j_iload_n jb dJ6_numberOfLeadingZeros_0f7a4_73 1 rfl ?_
            refine j_iload_n jb dJ6_numberOfLeadingZeros_0f7a4_74 0 rfl ?_
            refine j_iconst jb dJ6_numberOfLeadingZeros_0f7a4_75 ?_
            refine j_iushr jb dJ6_numberOfLeadingZeros_0f7a4_76 (by omega) (by decide) ?_
            refine j_topi (((u / 256) / 16) / 2) rfl ?_
            refine j_geni (fun tt e_tt => ?_)
            refine j_isub jb dJ6_numberOfLeadingZeros_0f7a4_77 ?_
            refine j_norm (lv' := []) (st' := [.int (iI (((31 + -8) + -4) - tt))]) (ws' := []) [] [] rfl rfl (by decide) rfl ?_
            exact j_iret jb jr dJ6_numberOfLeadingZeros_0f7a4_78 ⟨_, rfl, rfl, (by rcases (show tt = 0 ∨ tt = 1 by omega) with ht | ht <;> first | exact bl_case 0 1 (by decide) (by omega) (by omega) (by omega) | exact bl_case 1 2 (by decide) (by omega) (by omega) (by omega) | exact bl_case 2 4 (by decide) (by omega) (by omega) (by omega) | exact bl_case 3 8 (by decide) (by omega) (by omega) (by omega) | exact bl_case 4 16 (by decide) (by omega) (by omega) (by omega) | exact bl_case 5 32 (by decide) (by omega) (by omega) (by omega) | exact bl_case 6 64 (by decide) (by omega) (by omega) (by omega) | exact bl_case 7 128 (by decide) (by omega) (by omega) (by omega) | exact bl_case 8 256 (by decide) (by omega) (by omega) (by omega) | exact bl_case 9 512 (by decide) (by omega) (by omega) (by omega) | exact bl_case 10 1024 (by decide) (by omega) (by omega) (by omega) | exact bl_case 11 2048 (by decide) (by omega) (by omega) (by omega) | exact bl_case 12 4096 (by decide) (by omega) (by omega) (by omega) | exact bl_case 13 8192 (by decide) (by omega) (by omega) (by omega) | exact bl_case 14 16384 (by decide) (by omega) (by omega) (by omega) | exact bl_case 15 32768 (by decide) (by omega) (by omega) (by omega) | exact bl_case 16 65536 (by decide) (by omega) (by omega) (by omega) | exact bl_case 17 131072 (by decide) (by omega) (by omega) (by omega) | exact bl_case 18 262144 (by decide) (by omega) (by omega) (by omega) | exact bl_case 19 524288 (by decide) (by omega) (by omega) (by omega) | exact bl_case 20 1048576 (by decide) (by omega) (by omega) (by omega) | exact bl_case 21 2097152 (by decide) (by omega) (by omega) (by omega) | exact bl_case 22 4194304 (by decide) (by omega) (by omega) (by omega) | exact bl_case 23 8388608 (by decide) (by omega) (by omega) (by omega) | exact bl_case 24 16777216 (by decide) (by omega) (by omega) (by omega) | exact bl_case 25 33554432 (by decide) (by omega) (by omega) (by omega) | exact bl_case 26 67108864 (by decide) (by omega) (by omega) (by omega) | exact bl_case 27 134217728 (by decide) (by omega) (by omega) (by omega) | exact bl_case 28 268435456 (by decide) (by omega) (by omega) (by omega) | exact bl_case 29 536870912 (by decide) (by omega) (by omega) (by omega) | exact bl_case 30 1073741824 (by decide) (by omega) (by omega) (by omega))⟩
          · skip
            refine j_iinc (lv' := [(1, .int (iI (((31 + -8) + -4) + -2))), (0, .int (iI ((u / 256) / 16)))]) jb dJ6_numberOfLeadingZeros_0f7a4_66 1 rfl (by decide) rfl ?_
            refine j_iload_n jb dJ6_numberOfLeadingZeros_0f7a4_69 1 rfl ?_
            refine j_iconst jb dJ6_numberOfLeadingZeros_0f7a4_70 ?_
            refine j_iushr jb dJ6_numberOfLeadingZeros_0f7a4_71 (by omega) (by decide) ?_
            refine j_topi (((u / 256) / 16) / 4) rfl ?_
            refine j_istore_n (lv' := [(0, .int (iI (((u / 256) / 16) / 4))), (1, .int (iI (((31 + -8) + -4) + -2)))]) jb dJ6_numberOfLeadingZeros_0f7a4_72 rfl (by decide) rfl ?_
            refine j_iload_n jb dJ6_numberOfLeadingZeros_0f7a4_73 1 rfl ?_
            refine j_iload_n jb dJ6_numberOfLeadingZeros_0f7a4_74 0 rfl ?_
            refine j_iconst jb dJ6_numberOfLeadingZeros_0f7a4_75 ?_
            refine j_iushr jb dJ6_numberOfLeadingZeros_0f7a4_76 (by omega) (by decide) ?_
            refine j_topi ((((u / 256) / 16) / 4) / 2) rfl ?_
            refine j_geni (fun tt e_tt => ?_)
            refine j_isub jb dJ6_numberOfLeadingZeros_0f7a4_77 ?_
            refine j_norm (lv' := []) (st' := [.int (iI ((((31 + -8) + -4) + -2) - tt))]) (ws' := []) [] [] rfl rfl (by decide) rfl ?_
            exact j_iret jb jr dJ6_numberOfLeadingZeros_0f7a4_78 ⟨_, rfl, rfl, (by rcases (show tt = 0 ∨ tt = 1 by omega) with ht | ht <;> first | exact bl_case 0 1 (by decide) (by omega) (by omega) (by omega) | exact bl_case 1 2 (by decide) (by omega) (by omega) (by omega) | exact bl_case 2 4 (by decide) (by omega) (by omega) (by omega) | exact bl_case 3 8 (by decide) (by omega) (by omega) (by omega) | exact bl_case 4 16 (by decide) (by omega) (by omega) (by omega) | exact bl_case 5 32 (by decide) (by omega) (by omega) (by omega) | exact bl_case 6 64 (by decide) (by omega) (by omega) (by omega) | exact bl_case 7 128 (by decide) (by omega) (by omega) (by omega) | exact bl_case 8 256 (by decide) (by omega) (by omega) (by omega) | exact bl_case 9 512 (by decide) (by omega) (by omega) (by omega) | exact bl_case 10 1024 (by decide) (by omega) (by omega) (by omega) | exact bl_case 11 2048 (by decide) (by omega) (by omega) (by omega) | exact bl_case 12 4096 (by decide) (by omega) (by omega) (by omega) | exact bl_case 13 8192 (by decide) (by omega) (by omega) (by omega) | exact bl_case 14 16384 (by decide) (by omega) (by omega) (by omega) | exact bl_case 15 32768 (by decide) (by omega) (by omega) (by omega) | exact bl_case 16 65536 (by decide) (by omega) (by omega) (by omega) | exact bl_case 17 131072 (by decide) (by omega) (by omega) (by omega) | exact bl_case 18 262144 (by decide) (by omega) (by omega) (by omega) | exact bl_case 19 524288 (by decide) (by omega) (by omega) (by omega) | exact bl_case 20 1048576 (by decide) (by omega) (by omega) (by omega) | exact bl_case 21 2097152 (by decide) (by omega) (by omega) (by omega) | exact bl_case 22 4194304 (by decide) (by omega) (by omega) (by omega) | exact bl_case 23 8388608 (by decide) (by omega) (by omega) (by omega) | exact bl_case 24 16777216 (by decide) (by omega) (by omega) (by omega) | exact bl_case 25 33554432 (by decide) (by omega) (by omega) (by omega) | exact bl_case 26 67108864 (by decide) (by omega) (by omega) (by omega) | exact bl_case 27 134217728 (by decide) (by omega) (by omega) (by omega) | exact bl_case 28 268435456 (by decide) (by omega) (by omega) (by omega) | exact bl_case 29 536870912 (by decide) (by omega) (by omega) (by omega) | exact bl_case 30 1073741824 (by decide) (by omega) (by omega) (by omega))⟩
    · skip
      refine j_iinc (lv' := [(1, .int (iI (31 + -16))), (0, .int (iI u))]) jb dJ6_numberOfLeadingZeros_0f7a4_25 0 rfl (by decide) rfl ?_
      refine j_iload_n jb dJ6_numberOfLeadingZeros_0f7a4_28 1 rfl ?_
      refine j_bipush jb dJ6_numberOfLeadingZeros_0f7a4_29 (by decide) ?_
      refine j_iushr jb dJ6_numberOfLeadingZeros_0f7a4_31 (by omega) (by decide) ?_
      refine j_topi (u / 65536) rfl ?_
      refine j_istore_n (lv' := [(0, .int (iI (u / 65536))), (1, .int (iI (31 + -16)))]) jb dJ6_numberOfLeadingZeros_0f7a4_32 rfl (by decide) rfl ?_
      refine j_iload_n jb dJ6_numberOfLeadingZeros_0f7a4_33 0 rfl ?_
      refine j_sipush jb dJ6_numberOfLeadingZeros_0f7a4_34 (by decide) ?_
      refine j_icmp_lt (tgt := 48) jb dJ6_numberOfLeadingZeros_0f7a4_37 (by decide) (by omega) (by omega) (fun c_37 => ?_) (fun c_37 => ?_)
      · skip
        refine j_iload_n jb dJ6_numberOfLeadingZeros_0f7a4_48 0 rfl ?_
        refine j_bipush jb dJ6_numberOfLeadingZeros_0f7a4_49 (by decide) ?_
        refine j_icmp_lt (tgt := 61) jb dJ6_numberOfLeadingZeros_0f7a4_51 (by decide) (by omega) (by omega) (fun c_51 => ?_) (fun c_51 => ?_)
        · skip
          refine j_iload_n jb dJ6_numberOfLeadingZeros_0f7a4_61 0 rfl ?_
          refine j_iconst jb dJ6_numberOfLeadingZeros_0f7a4_62 ?_
          refine j_icmp_lt (tgt := 73) jb dJ6_numberOfLeadingZeros_0f7a4_63 (by decide) (by omega) (by omega) (fun c_63 => ?_) (fun c_63 => ?_)
          · skip
            refine j_iload_n jb dJ6_numberOfLeadingZeros_0f7a4_73 1 rfl ?_
            refine j_iload_n jb dJ6_numberOfLeadingZeros_0f7a4_74 0 rfl ?_
            refine j_iconst jb dJ6_numberOfLeadingZeros_0f7a4_75 ?_
            refine j_iushr jb dJ6_numberOfLeadingZeros_0f7a4_76 (by omega) (by decide) ?_
            refine j_topi ((u / 65536) / 2) rfl ?_
            refine j_geni (fun tt e_tt => ?_)
            refine j_isub jb dJ6_numberOfLeadingZeros_0f7a4_77 ?_
            refine j_norm (lv' := []) (st' := [.int (iI ((31 + -16) - tt))]) (ws' := []) [] [] rfl rfl (by decide) rfl ?_
            exact j_iret jb jr dJ6_numberOfLeadingZeros_0f7a4_78 ⟨_, rfl, rfl, (by rcases (show tt = 0 ∨ tt = 1 by omega) with ht | ht <;> first | exact bl_case 0 1 (by decide) (by omega) (by omega) (by omega) | exact bl_case 1 2 (by decide) (by omega) (by omega) (by omega) | exact bl_case 2 4 (by decide) (by omega) (by omega) (by omega) | exact bl_case 3 8 (by decide) (by omega) (by omega) (by omega) | exact bl_case 4 16 (by decide) (by omega) (by omega) (by omega) | exact bl_case 5 32 (by decide) (by omega) (by omega) (by omega) | exact bl_case 6 64 (by decide) (by omega) (by omega) (by omega) | exact bl_case 7 128 (by decide) (by omega) (by omega) (by omega) | exact bl_case 8 256 (by decide) (by omega) (by omega) (by omega) | exact bl_case 9 512 (by decide) (by omega) (by omega) (by omega) | exact bl_case 10 1024 (by decide) (by omega) (by omega) (by omega) | exact bl_case 11 2048 (by decide) (by omega) (by omega) (by omega) | exact bl_case 12 4096 (by decide) (by omega) (by omega) (by omega) | exact bl_case 13 8192 (by decide) (by omega) (by omega) (by omega) | exact bl_case 14 16384 (by decide) (by omega) (by omega) (by omega) | exact bl_case 15 32768 (by decide) (by omega) (by omega) (by omega) | exact bl_case 16 65536 (by decide) (by omega) (by omega) (by omega) | exact bl_case 17 131072 (by decide) (by omega) (by omega) (by omega) | exact bl_case 18 262144 (by decide) (by omega) (by omega) (by omega) | exact bl_case 19 524288 (by decide) (by omega) (by omega) (by omega) | exact bl_case 20 1048576 (by decide) (by omega) (by omega) (by omega) | exact bl_case 21 2097152 (by decide) (by omega) (by omega) (by omega) | exact bl_case 22 4194304 (by decide) (by omega) (by omega) (by omega) | exact bl_case 23 8388608 (by decide) (by omega) (by omega) (by omega) | exact bl_case 24 16777216 (by decide) (by omega) (by omega) (by omega) | exact bl_case 25 33554432 (by decide) (by omega) (by omega) (by omega) | exact bl_case 26 67108864 (by decide) (by omega) (by omega) (by omega) | exact bl_case 27 134217728 (by decide) (by omega) (by omega) (by omega) | exact bl_case 28 268435456 (by decide) (by omega) (by omega) (by omega) | exact bl_case 29 536870912 (by decide) (by omega) (by omega) (by omega) | exact bl_case 30 1073741824 (by decide) (by omega) (by omega) (by omega))⟩
          · skip
            refine j_iinc (lv' := [(1, .int (iI ((31 + -16) + -2))), (0, .int (iI (u / 65536)))]) jb dJ6_numberOfLeadingZeros_0f7a4_66 1 rfl (by decide) rfl ?_
            refine j_iload_n jb dJ6_numberOfLeadingZeros_0f7a4_69 1 rfl ?_
            refine j_iconst jb dJ6_numberOfLeadingZeros_0f7a4_70 ?_
            refine j_iushr jb dJ6_numberOfLeadingZeros_0f7a4_71 (by omega) (by decide) ?_
            refine j_topi ((u / 65536) / 4) rfl ?_
            refine j_istore_n (lv' := [(0, .int (iI ((u / 65536) / 4))), (1, .int (iI ((31 + -16) + -2)))]) jb dJ6_numberOfLeadingZeros_0f7a4_72 rfl (by decide) rfl ?_
            refine j_iload_n jb dJ6_numberOfLeadingZeros_0f7a4_73 1 rfl ?_
            refine j_iload_n jb dJ6_numberOfLeadingZeros_0f7a4_74 0 rfl ?_
            refine j_iconst jb dJ6_numberOfLeadingZeros_0f7a4_75 ?_
            refine j_iushr jb dJ6_numberOfLeadingZeros_0f7a4_76 (by omega) (by decide) ?_
            refine j_topi (((u / 65536) / 4) / 2) rfl ?_
            refine j_geni (fun tt e_tt => ?_)
            refine j_isub jb dJ6_numberOfLeadingZeros_0f7a4_77 ?_
            refine j_norm (lv' := []) (st' := [.int (iI (((31 + -16) + -2) - tt))]) (ws' := []) [] [] rfl rfl (by decide) rfl ?_
            exact j_iret jb jr dJ6_numberOfLeadingZeros_0f7a4_78 ⟨_, rfl, rfl, (by rcases (show tt = 0 ∨ tt = 1 by omega) with ht | ht <;> first | exact bl_case 0 1 (by decide) (by omega) (by omega) (by omega) | exact bl_case 1 2 (by decide) (by omega) (by omega) (by omega) | exact bl_case 2 4 (by decide) (by omega) (by omega) (by omega) | exact bl_case 3 8 (by decide) (by omega) (by omega) (by omega) | exact bl_case 4 16 (by decide) (by omega) (by omega) (by omega) | exact bl_case 5 32 (by decide) (by omega) (by omega) (by omega) | exact bl_case 6 64 (by decide) (by omega) (by omega) (by omega) | exact bl_case 7 128 (by decide) (by omega) (by omega) (by omega) | exact bl_case 8 256 (by decide) (by omega) (by omega) (by omega) | exact bl_case 9 512 (by decide) (by omega) (by omega) (by omega) | exact bl_case 10 1024 (by decide) (by omega) (by omega) (by omega) | exact bl_case 11 2048 (by decide) (by omega) (by omega) (by omega) | exact bl_case 12 4096 (by decide) (by omega) (by omega) (by omega) | exact bl_case 13 8192 (by decide) (by omega) (by omega) (by omega) | exact bl_case 14 16384 (by decide) (by omega) (by omega) (by omega) | exact bl_case 15 32768 (by decide) (by omega) (by omega) (by omega) | exact bl_case 16 65536 (by decide) (by omega) (by omega) (by omega) | exact bl_case 17 131072 (by decide) (by omega) (by omega) (by omega) | exact bl_case 18 262144 (by decide) (by omega) (by omega) (by omega) | exact bl_case 19 524288 (by decide) (by omega) (by omega) (by omega) | exact bl_case 20 1048576 (by decide) (by omega) (by omega) (by omega) | exact bl_case 21 2097152 (by decide) (by omega) (by omega) (by omega) | exact bl_case 22 4194304 (by decide) (by omega) (by omega) (by omega) | exact bl_case 23 8388608 (by decide) (by omega) (by omega) (by omega) | exact bl_case 24 16777216 (by decide) (by omega) (by omega) (by omega) | exact bl_case 25 33554432 (by decide) (by omega) (by omega) (by omega) | exact bl_case 26 67108864 (by decide) (by omega) (by omega) (by omega) | exact bl_case 27 134217728 (by decide) (by omega) (by omega) (by omega) | exact bl_case 28 268435456 (by decide) (by omega) (by omega) (by omega) | exact bl_case 29 536870912 (by decide) (by omega) (by omega) (by omega) | exact bl_case 30 1073741824 (by decide) (by omega) (by omega) (by omega))⟩
        · skip
          refine j_iinc (lv' := [(1, .int (iI ((31 + -16) + -4))), (0, .int (iI (u / 65536)))]) jb dJ6_numberOfLeadingZeros_0f7a4_54 1 rfl (by decide) rfl ?_
          refine j_iload_n jb dJ6_numberOfLeadingZeros_0f7a4_57 1 rfl ?_
          refine j_iconst jb dJ6_numberOfLeadingZeros_0f7a4_58 ?_
          refine j_iushr jb dJ6_numberOfLeadingZeros_0f7a4_59 (by omega) (by decide) ?_
          refine j_topi ((u / 65536) / 16) rfl ?_
          refine j_istore_n (lv' := [(0, .int (iI ((u / 65536) / 16))), (1, .int (iI ((31 + -16) + -4)))]) jb dJ6_numberOfLeadingZeros_0f7a4_60 rfl (by decide) rfl ?_
          refine j_iload_n jb dJ6_numberOfLeadingZeros_0f7a4_61 0 rfl ?_
          refine j_iconst jb dJ6_numberOfLeadingZeros_0f7a4_62 ?_
          refine j_icmp_lt (tgt := 73) jb dJ6_numberOfLeadingZeros_0f7a4_63 (by decide) (by omega) (by omega) (fun c_63 => ?_) (fun c_63 => ?_)
          · skip
            refine j_iload_n jb dJ6_numberOfLeadingZeros_0f7a4_73 1 rfl ?_
            refine j_iload_n jb dJ6_numberOfLeadingZeros_0f7a4_74 0 rfl ?_
            refine j_iconst jb dJ6_numberOfLeadingZeros_0f7a4_75 ?_
            refine j_iushr jb dJ6_numberOfLeadingZeros_0f7a4_76 (by omega) (by decide) ?_
            refine j_topi (((u / 65536) / 16) / 2) rfl ?_
            refine j_geni (fun tt e_tt => ?_)
            refine j_isub jb dJ6_numberOfLeadingZeros_0f7a4_77 ?_
            refine j_norm (lv' := []) (st' := [.int (iI (((31 + -16) + -4) - tt))]) (ws' := []) [] [] rfl rfl (by decide) rfl ?_
            exact j_iret jb jr dJ6_numberOfLeadingZeros_0f7a4_78 ⟨_, rfl, rfl, (by rcases (show tt = 0 ∨ tt = 1 by omega) with ht | ht <;> first | exact bl_case 0 1 (by decide) (by omega) (by omega) (by omega) | exact bl_case 1 2 (by decide) (by omega) (by omega) (by omega) | exact bl_case 2 4 (by decide) (by omega) (by omega) (by omega) | exact bl_case 3 8 (by decide) (by omega) (by omega) (by omega) | exact bl_case 4 16 (by decide) (by omega) (by omega) (by omega) | exact bl_case 5 32 (by decide) (by omega) (by omega) (by omega) | exact bl_case 6 64 (by decide) (by omega) (by omega) (by omega) | exact bl_case 7 128 (by decide) (by omega) (by omega) (by omega) | exact bl_case 8 256 (by decide) (by omega) (by omega) (by omega) | exact bl_case 9 512 (by decide) (by omega) (by omega) (by omega) | exact bl_case 10 1024 (by decide) (by omega) (by omega) (by omega) | exact bl_case 11 2048 (by decide) (by omega) (by omega) (by omega) | exact bl_case 12 4096 (by decide) (by omega) (by omega) (by omega) | exact bl_case 13 8192 (by decide) (by omega) (by omega) (by omega) | exact bl_case 14 16384 (by decide) (by omega) (by omega) (by omega) | exact bl_case 15 32768 (by decide) (by omega) (by omega) (by omega) | exact bl_case 16 65536 (by decide) (by omega) (by omega) (by omega) | exact bl_case 17 131072 (by decide) (by omega) (by omega) (by omega) | exact bl_case 18 262144 (by decide) (by omega) (by omega) (by omega) | exact bl_case 19 524288 (by decide) (by omega) (by omega) (by omega) | exact bl_case 20 1048576 (by decide) (by omega) (by omega) (by omega) | exact bl_case 21 2097152 (by decide) (by omega) (by omega) (by omega) | exact bl_case 22 4194304 (by decide) (by omega) (by omega) (by omega) | exact bl_case 23 8388608 (by decide) (by omega) (by omega) (by omega) | exact bl_case 24 16777216 (by decide) (by omega) (by omega) (by omega) | exact bl_case 25 33554432 (by decide) (by omega) (by omega) (by omega) | exact bl_case 26 67108864 (by decide) (by omega) (by omega) (by omega) | exact bl_case 27 134217728 (by decide) (by omega) (by omega) (by omega) | exact bl_case 28 268435456 (by decide) (by omega) (by omega) (by omega) | exact bl_case 29 536870912 (by decide) (by omega) (by omega) (by omega) | exact bl_case 30 1073741824 (by decide) (by omega) (by omega) (by omega))⟩
          · skip
            refine j_iinc (lv' := [(1, .int (iI (((31 + -16) + -4) + -2))), (0, .int (iI ((u / 65536) / 16)))]) jb dJ6_numberOfLeadingZeros_0f7a4_66 1 rfl (by decide) rfl ?_
            refine j_iload_n jb dJ6_numberOfLeadingZeros_0f7a4_69 1 rfl ?_
            refine j_iconst jb dJ6_numberOfLeadingZeros_0f7a4_70 ?_
            refine j_iushr jb dJ6_numberOfLeadingZeros_0f7a4_71 (by omega) (by decide) ?_
            refine j_topi (((u / 65536) / 16) / 4) rfl ?_
            refine j_istore_n (lv' := [(0, .int (iI (((u / 65536) / 16) / 4))), (1, .int (iI (((31 + -16) + -4) + -2)))]) jb dJ6_numberOfLeadingZeros_0f7a4_72 rfl (by decide) rfl ?_
            refine j_iload_n jb dJ6_numberOfLeadingZeros_0f7a4_73 1 rfl ?_
            refine j_iload_n jb dJ6_numberOfLeadingZeros_0f7a4_74 0 rfl ?_
            refine j_iconst jb dJ6_numberOfLeadingZeros_0f7a4_75 ?_
            refine j_iushr jb dJ6_numberOfLeadingZeros_0f7a4_76 (by omega) (by decide) ?_
            refine j_topi ((((u / 65536) / 16) / 4) / 2) rfl ?_
            refine j_geni (fun tt e_tt => ?_)
            refine j_isub jb dJ6_numberOfLeadingZeros_0f7a4_77 ?_
            refine j_norm (lv' := []) (st' := [.int (iI ((((31 + -16) + -4) + -2) - tt))]) (ws' := []) [] [] rfl rfl (by decide) rfl ?_
            exact j_iret jb jr dJ6_numberOfLeadingZeros_0f7a4_78 ⟨_, rfl, rfl, (by rcases (show tt = 0 ∨ tt = 1 by omega) with ht | ht <;> first | exact bl_case 0 1 (by decide) (by omega) (by omega) (by omega) | exact bl_case 1 2 (by decide) (by omega) (by omega) (by omega) | exact bl_case 2 4 (by decide) (by omega) (by omega) (by omega) | exact bl_case 3 8 (by decide) (by omega) (by omega) (by omega) | exact bl_case 4 16 (by decide) (by omega) (by omega) (by omega) | exact bl_case 5 32 (by decide) (by omega) (by omega) (by omega) | exact bl_case 6 64 (by decide) (by omega) (by omega) (by omega) | exact bl_case 7 128 (by decide) (by omega) (by omega) (by omega) | exact bl_case 8 256 (by decide) (by omega) (by omega) (by omega) | exact bl_case 9 512 (by decide) (by omega) (by omega) (by omega) | exact bl_case 10 1024 (by decide) (by omega) (by omega) (by omega) | exact bl_case 11 2048 (by decide) (by omega) (by omega) (by omega) | exact bl_case 12 4096 (by decide) (by omega) (by omega) (by omega) | exact bl_case 13 8192 (by decide) (by omega) (by omega) (by omega) | exact bl_case 14 16384 (by decide) (by omega) (by omega) (by omega) | exact bl_case 15 32768 (by decide) (by omega) (by omega) (by omega) | exact bl_case 16 65536 (by decide) (by omega) (by omega) (by omega) | exact bl_case 17 131072 (by decide) (by omega) (by omega) (by omega) | exact bl_case 18 262144 (by decide) (by omega) (by omega) (by omega) | exact bl_case 19 524288 (by decide) (by omega) (by omega) (by omega) | exact bl_case 20 1048576 (by decide) (by omega) (by omega) (by omega) | exact bl_case 21 2097152 (by decide) (by omega) (by omega) (by omega) | exact bl_case 22 4194304 (by decide) (by omega) (by omega) (by omega) | exact bl_case 23 8388608 (by decide) (by omega) (by omega) (by omega) | exact bl_case 24 16777216 (by decide) (by omega) (by omega) (by omega) | exact bl_case 25 33554432 (by decide) (by omega) (by omega) (by omega) | exact bl_case 26 67108864 (by decide) (by omega) (by omega) (by omega) | exact bl_case 27 134217728 (by decide) (by omega) (by omega) (by omega) | exact bl_case 28 268435456 (by decide) (by omega) (by omega) (by omega) | exact bl_case 29 536870912 (by decide) (by omega) (by omega) (by omega) | exact bl_case 30 1073741824 (by decide) (by omega) (by omega) (by omega))⟩
      · skip
        refine j_iinc (lv' := [(1, .int (iI ((31 + -16) + -8))), (0, .int (iI (u / 65536)))]) jb dJ6_numberOfLeadingZeros_0f7a4_40 1 rfl (by decide) rfl ?_
        refine j_iload_n jb dJ6_numberOfLeadingZeros_0f7a4_43 1 rfl ?_
        refine j_bipush jb dJ6_numberOfLeadingZeros_0f7a4_44 (by decide) ?_
        refine j_iushr jb dJ6_numberOfLeadingZeros_0f7a4_46 (by omega) (by decide) ?_
        refine j_topi ((u / 65536) / 256) rfl ?_
        refine j_istore_n (lv' := [(0, .int (iI ((u / 65536) / 256))), (1, .int (iI ((31 + -16) + -8)))]) jb dJ6_numberOfLeadingZeros_0f7a4_47 rfl (by decide) rfl ?_
        refine j_iload_n jb dJ6_numberOfLeadingZeros_0f7a4_48 0 rfl ?_
        refine j_bipush jb dJ6_numberOfLeadingZeros_0f7a4_49 (by decide) ?_
        refine j_icmp_lt (tgt := 61) jb dJ6_numberOfLeadingZeros_0f7a4_51 (by decide) (by omega) (by omega) (fun c_51 => ?_) (fun c_51 => ?_)
        · skip
          refine j_iload_n jb dJ6_numberOfLeadingZeros_0f7a4_61 0 rfl ?_
          refine j_iconst jb dJ6_numberOfLeadingZeros_0f7a4_62 ?_
          refine j_icmp_lt (tgt := 73) jb dJ6_numberOfLeadingZeros_0f7a4_63 (by decide) (by omega) (by omega) (fun c_63 => ?_) (fun c_63 => ?_)
          · skip
            refine j_iload_n jb dJ6_numberOfLeadingZeros_0f7a4_73 1 rfl ?_
            refine j_iload_n jb dJ6_numberOfLeadingZeros_0f7a4_74 0 rfl ?_
            refine j_iconst jb dJ6_numberOfLeadingZeros_0f7a4_75 ?_
            refine j_iushr jb dJ6_numberOfLeadingZeros_0f7a4_76 (by omega) (by decide) ?_
            refine j_topi (((u / 65536) / 256) / 2) rfl ?_
            refine j_geni (fun tt e_tt => ?_)
            refine j_isub jb dJ6_numberOfLeadingZeros_0f7a4_77 ?_
            refine j_norm (lv' := []) (st' := [.int (iI (((31 + -16) + -8) - tt))]) (ws' := []) [] [] rfl rfl (by decide) rfl ?_
            exact j_iret jb jr dJ6_numberOfLeadingZeros_0f7a4_78 ⟨_, rfl, rfl, (by rcases (show tt = 0 ∨ tt = 1 by omega) with ht | ht <;> first | exact bl_case 0 1 (by decide) (by omega) (by omega) (by omega) | exact bl_case 1 2 (by decide) (by omega) (by omega) (by omega) | exact bl_case 2 4 (by decide) (by omega) (by omega) (by omega) | exact bl_case 3 8 (by decide) (by omega) (by omega) (by omega) | exact bl_case 4 16 (by decide) (by omega) (by omega) (by omega) | exact bl_case 5 32 (by decide) (by omega) (by omega) (by omega) | exact bl_case 6 64 (by decide) (by omega) (by omega) (by omega) | exact bl_case 7 128 (by decide) (by omega) (by omega) (by omega) | exact bl_case 8 256 (by decide) (by omega) (by omega) (by omega) | exact bl_case 9 512 (by decide) (by omega) (by omega) (by omega) | exact bl_case 10 1024 (by decide) (by omega) (by omega) (by omega) | exact bl_case 11 2048 (by decide) (by omega) (by omega) (by omega) | exact bl_case 12 4096 (by decide) (by omega) (by omega) (by omega) | exact bl_case 13 8192 (by decide) (by omega) (by omega) (by omega) | exact bl_case 14 16384 (by decide) (by omega) (by omega) (by omega) | exact bl_case 15 32768 (by decide) (by omega) (by omega) (by omega) | exact bl_case 16 65536 (by decide) (by omega) (by omega) (by omega) | exact bl_case 17 131072 (by decide) (by omega) (by omega) (by omega) | exact bl_case 18 262144 (by decide) (by omega) (by omega) (by omega) | exact bl_case 19 524288 (by decide) (by omega) (by omega) (by omega) | exact bl_case 20 1048576 (by decide) (by omega) (by omega) (by omega) | exact bl_case 21 2097152 (by decide) (by omega) (by omega) (by omega) | exact bl_case 22 4194304 (by decide) (by omega) (by omega) (by omega) | exact bl_case 23 8388608 (by decide) (by omega) (by omega) (by omega) | exact bl_case 24 16777216 (by decide) (by omega) (by omega) (by omega) | exact bl_case 25 33554432 (by decide) (by omega) (by omega) (by omega) | exact bl_case 26 67108864 (by decide) (by omega) (by omega) (by omega) | exact bl_case 27 134217728 (by decide) (by omega) (by omega) (by omega) | exact bl_case 28 268435456 (by decide) (by omega) (by omega) (by omega) | exact bl_case 29 536870912 (by decide) (by omega) (by omega) (by omega) | exact bl_case 30 1073741824 (by decide) (by omega) (by omega) (by omega))⟩
          · skip
            refine j_iinc (lv' := [(1, .int (iI (((31 + -16) + -8) + -2))), (0, .int (iI ((u / 65536) / 256)))]) jb dJ6_numberOfLeadingZeros_0f7a4_66 1 rfl (by decide) rfl ?_
            refine j_iload_n jb dJ6_numberOfLeadingZeros_0f7a4_69 1 rfl ?_
            refine j_iconst jb dJ6_numberOfLeadingZeros_0f7a4_70 ?_
            refine j_iushr jb dJ6_numberOfLeadingZeros_0f7a4_71 (by omega) (by decide) ?_
            refine j_topi (((u / 65536) / 256) / 4) rfl ?_
            refine j_istore_n (lv' := [(0, .int (iI (((u / 65536) / 256) / 4))), (1, .int (iI (((31 + -16) + -8) + -2)))]) jb dJ6_numberOfLeadingZeros_0f7a4_72 rfl (by decide) rfl ?_
            refine j_iload_n jb dJ6_numberOfLeadingZeros_0f7a4_73 1 rfl ?_
            refine j_iload_n jb dJ6_numberOfLeadingZeros_0f7a4_74 0 rfl ?_
            refine j_iconst jb dJ6_numberOfLeadingZeros_0f7a4_75 ?_
            refine j_iushr jb dJ6_numberOfLeadingZeros_0f7a4_76 (by omega) (by decide) ?_
            refine j_topi ((((u / 65536) / 256) / 4) / 2) rfl ?_
            refine j_geni (fun tt e_tt => ?_)
            refine j_isub jb dJ6_numberOfLeadingZeros_0f7a4_77 ?_
            refine j_norm (lv' := []) (st' := [.int (iI ((((31 + -16) + -8) + -2) - tt))]) (ws' := []) [] [] rfl rfl (by decide) rfl ?_
            exact j_iret jb jr dJ6_numberOfLeadingZeros_0f7a4_78 ⟨_, rfl, rfl, (by rcases (show tt = 0 ∨ tt = 1 by omega) with ht | ht <;> first | exact bl_case 0 1 (by decide) (by omega) (by omega) (by omega) | exact bl_case 1 2 (by decide) (by omega) (by omega) (by omega) | exact bl_case 2 4 (by decide) (by omega) (by omega) (by omega) | exact bl_case 3 8 (by decide) (by omega) (by omega) (by omega) | exact bl_case 4 16 (by decide) (by omega) (by omega) (by omega) | exact bl_case 5 32 (by decide) (by omega) (by omega) (by omega) | exact bl_case 6 64 (by decide) (by omega) (by omega) (by omega) | exact bl_case 7 128 (by decide) (by omega) (by omega) (by omega) | exact bl_case 8 256 (by decide) (by omega) (by omega) (by omega) | exact bl_case 9 512 (by decide) (by omega) (by omega) (by omega) | exact bl_case 10 1024 (by decide) (by omega) (by omega) (by omega) | exact bl_case 11 2048 (by decide) (by omega) (by omega) (by omega) | exact bl_case 12 4096 (by decide) (by omega) (by omega) (by omega) | exact bl_case 13 8192 (by decide) (by omega) (by omega) (by omega) | exact bl_case 14 16384 (by decide) (by omega) (by omega) (by omega) | exact bl_case 15 32768 (by decide) (by omega) (by omega) (by omega) | exact bl_case 16 65536 (by decide) (by omega) (by omega) (by omega) | exact bl_case 17 131072 (by decide) (by omega) (by omega) (by omega) | exact bl_case 18 262144 (by decide) (by omega) (by omega) (by omega) | exact bl_case 19 524288 (by decide) (by omega) (by omega) (by omega) | exact bl_case 20 1048576 (by decide) (by omega) (by omega) (by omega) | exact bl_case 21 2097152 (by decide) (by omega) (by omega) (by omega) | exact bl_case 22 4194304 (by decide) (by omega) (by omega) (by omega) | exact bl_case 23 8388608 (by decide) (by omega) (by omega) (by omega) | exact bl_case 24 16777216 (by decide) (by omega) (by omega) (by omega) | exact bl_case 25 33554432 (by decide) (by omega) (by omega) (by omega) | exact bl_case 26 67108864 (by decide) (by omega) (by omega) (by omega) | exact bl_case 27 134217728 (by decide) (by omega) (by omega) (by omega) | exact bl_case 28 268435456 (by decide) (by omega) (by omega) (by omega) | exact bl_case 29 536870912 (by decide) (by omega) (by omega) (by omega) | exact bl_case 30 1073741824 (by decide) (by omega) (by omega) (by omega))⟩
        · skip
          refine j_iinc (lv' := [(1, .int (iI (((31 + -16) + -8) + -4))), (0, .int (iI ((u / 65536) / 256)))]) jb dJ6_numberOfLeadingZeros_0f7a4_54 1 rfl (by decide) rfl ?_
          refine j_iload_n jb dJ6_numberOfLeadingZeros_0f7a4_57 1 rfl ?_
          refine j_iconst jb dJ6_numberOfLeadingZeros_0f7a4_58 ?_
          refine j_iushr jb dJ6_numberOfLeadingZeros_0f7a4_59 (by omega) (by decide) ?_
          refine j_topi (((u / 65536) / 256) / 16) rfl ?_
          refine j_istore_n (lv' := [(0, .int (iI (((u / 65536) / 256) / 16))), (1, .int (iI (((31 + -16) + -8) + -4)))]) jb dJ6_numberOfLeadingZeros_0f7a4_60 rfl (by decide) rfl ?_
          refine j_iload_n jb dJ6_numberOfLeadingZeros_0f7a4_61 0 rfl ?_
          refine j_iconst jb dJ6_numberOfLeadingZeros_0f7a4_62 ?_
          refine j_icmp_lt (tgt := 73) jb dJ6_numberOfLeadingZeros_0f7a4_63 (by decide) (by omega) (by omega) (fun c_63 => ?_) (fun c_63 => ?_)
          · skip
            refine j_iload_n jb dJ6_numberOfLeadingZeros_0f7a4_73 1 rfl ?_
            refine j_iload_n jb dJ6_numberOfLeadingZeros_0f7a4_74 0 rfl ?_
            refine j_iconst jb dJ6_numberOfLeadingZeros_0f7a4_75 ?_
            refine j_iushr jb dJ6_numberOfLeadingZeros_0f7a4_76 (by omega) (by decide) ?_
            refine j_topi ((((u / 65536) / 256) / 16) / 2) rfl ?_
            refine j_geni (fun tt e_tt => ?_)
            refine j_isub jb dJ6_numberOfLeadingZeros_0f7a4_77 ?_
            refine j_norm (lv' := []) (st' := [.int (iI ((((31 + -16) + -8) + -4) - tt))]) (ws' := []) [] [] rfl rfl (by decide) rfl ?_
            exact j_iret jb jr dJ6_numberOfLeadingZeros_0f7a4_78 ⟨_, rfl, rfl, (by rcases (show tt = 0 ∨ tt = 1 by omega) with ht | ht <;> first | exact bl_case 0 1 (by decide) (by omega) (by omega) (by omega) | exact bl_case 1 2 (by decide) (by omega) (by omega) (by omega) | exact bl_case 2 4 (by decide) (by omega) (by omega) (by omega) | exact bl_case 3 8 (by decide) (by omega) (by omega) (by omega) | exact bl_case 4 16 (by decide) (by omega) (by omega) (by omega) | exact bl_case 5 32 (by decide) (by omega) (by omega) (by omega) | exact bl_case 6 64 (by decide) (by omega) (by omega) (by omega) | exact bl_case 7 128 (by decide) (by omega) (by omega) (by omega) | exact bl_case 8 256 (by decide) (by omega) (by omega) (by omega) | exact bl_case 9 512 (by decide) (by omega) (by omega) (by omega) | exact bl_case 10 1024 (by decide) (by omega) (by omega) (by omega) | exact bl_case 11 2048 (by decide) (by omega) (by omega) (by omega) | exact bl_case 12 4096 (by decide) (by omega) (by omega) (by omega) | exact bl_case 13 8192 (by decide) (by omega) (by omega) (by omega) | exact bl_case 14 16384 (by decide) (by omega) (by omega) (by omega) | exact bl_case 15 32768 (by decide) (by omega) (by omega) (by omega) | exact bl_case 16 65536 (by decide) (by omega) (by omega) (by omega) | exact bl_case 17 131072 (by decide) (by omega) (by omega) (by omega) | exact bl_case 18 262144 (by decide) (by omega) (by omega) (by omega) | exact bl_case 19 524288 (by decide) (by omega) (by omega) (by omega) | exact bl_case 20 1048576 (by decide) (by omega) (by omega) (by omega) | exact bl_case 21 2097152 (by decide) (by omega) (by omega) (by omega) | exact bl_case 22 4194304 (by decide) (by omega) (by omega) (by omega) | exact bl_case 23 8388608 (by decide) (by omega) (by omega) (by omega) | exact bl_case 24 16777216 (by decide) (by omega) (by omega) (by omega) | exact bl_case 25 33554432 (by decide) (by omega) (by omega) (by omega) | exact bl_case 26 67108864 (by decide) (by omega) (by omega) (by omega) | exact bl_case 27 134217728 (by decide) (by omega) (by omega) (by omega) | exact bl_case 28 268435456 (by decide) (by omega) (by omega) (by omega) | exact bl_case 29 536870912 (by decide) (by omega) (by omega) (by omega) | exact bl_case 30 1073741824 (by decide) (by omega) (by omega) (by omega))⟩
          · skip
            refine j_iinc (lv' := [(1, .int (iI ((((31 + -16) + -8) + -4) + -2))), (0, .int (iI (((u / 65536) / 256) / 16)))]) jb dJ6_numberOfLeadingZeros_0f7a4_66 1 rfl (by decide) rfl ?_
            refine j_iload_n jb dJ6_numberOfLeadingZeros_0f7a4_69 1 rfl ?_
            refine j_iconst jb dJ6_numberOfLeadingZeros_0f7a4_70 ?_
            refine j_iushr jb dJ6_numberOfLeadingZeros_0f7a4_71 (by omega) (by decide) ?_
            refine j_topi ((((u / 65536) / 256) / 16) / 4) rfl ?_
            refine j_istore_n (lv' := [(0, .int (iI ((((u / 65536) / 256) / 16) / 4))), (1, .int (iI ((((31 + -16) + -8) + -4) + -2)))]) jb dJ6_numberOfLeadingZeros_0f7a4_72 rfl (by decide) rfl ?_
            refine j_iload_n jb dJ6_numberOfLeadingZeros_0f7a4_73 1 rfl ?_
            refine j_iload_n jb dJ6_numberOfLeadingZeros_0f7a4_74 0 rfl ?_
            refine j_iconst jb dJ6_numberOfLeadingZeros_0f7a4_75 ?_
            refine j_iushr jb dJ6_numberOfLeadingZeros_0f7a4_76 (by omega) (by decide) ?_
            refine j_topi (((((u / 65536) / 256) / 16) / 4) / 2) rfl ?_
            refine j_geni (fun tt e_tt => ?_)
            refine j_isub jb dJ6_numberOfLeadingZeros_0f7a4_77 ?_
            refine j_norm (lv' := []) (st' := [.int (iI (((((31 + -16) + -8) + -4) + -2) - tt))]) (ws' := []) [] [] rfl rfl (by decide) rfl ?_
            exact j_iret jb jr dJ6_numberOfLeadingZeros_0f7a4_78 ⟨_, rfl, rfl, (by rcases (show tt = 0 ∨ tt = 1 by omega) with ht | ht <;> first | exact bl_case 0 1 (by decide) (by omega) (by omega) (by omega) | exact bl_case 1 2 (by decide) (by omega) (by omega) (by omega) | exact bl_case 2 4 (by decide) (by omega) (by omega) (by omega) | exact bl_case 3 8 (by decide) (by omega) (by omega) (by omega) | exact bl_case 4 16 (by decide) (by omega) (by omega) (by omega) | exact bl_case 5 32 (by decide) (by omega) (by omega) (by omega) | exact bl_case 6 64 (by decide) (by omega) (by omega) (by omega) | exact bl_case 7 128 (by decide) (by omega) (by omega) (by omega) | exact bl_case 8 256 (by decide) (by omega) (by omega) (by omega) | exact bl_case 9 512 (by decide) (by omega) (by omega) (by omega) | exact bl_case 10 1024 (by decide) (by omega) (by omega) (by omega) | exact bl_case 11 2048 (by decide) (by omega) (by omega) (by omega) | exact bl_case 12 4096 (by decide) (by omega) (by omega) (by omega) | exact bl_case 13 8192 (by decide) (by omega) (by omega) (by omega) | exact bl_case 14 16384 (by decide) (by omega) (by omega) (by omega) | exact bl_case 15 32768 (by decide) (by omega) (by omega) (by omega) | exact bl_case 16 65536 (by decide) (by omega) (by omega) (by omega) | exact bl_case 17 131072 (by decide) (by omega) (by omega) (by omega) | exact bl_case 18 262144 (by decide) (by omega) (by omega) (by omega) | exact bl_case 19 524288 (by decide) (by omega) (by omega) (by omega) | exact bl_case 20 1048576 (by decide) (by omega) (by omega) (by omega) | exact bl_case 21 2097152 (by decide) (by omega) (by omega) (by omega) | exact bl_case 22 4194304 (by decide) (by omega) (by omega) (by omega) | exact bl_case 23 8388608 (by decide) (by omega) (by omega) (by omega) | exact bl_case 24 16777216 (by decide) (by omega) (by omega) (by omega) | exact bl_case 25 33554432 (by decide) (by omega) (by omega) (by omega) | exact bl_case 26 67108864 (by decide) (by omega) (by omega) (by omega) | exact bl_case 27 134217728 (by decide) (by omega) (by omega) (by omega) | exact bl_case 28 268435456 (by decide) (by omega) (by omega) (by omega) | exact bl_case 29 536870912 (by decide) (by omega) (by omega) (by omega) | exact bl_case 30 1073741824 (by decide) (by omega) (by omega) (by omega))⟩
  · skip
    refine j_iload_n jb dJ6_numberOfLeadingZeros_0f7a4_4 0 rfl ?_
    refine j_if_ne (tgt := 13) jb dJ6_numberOfLeadingZeros_0f7a4_5 (by decide) (by omega) (fun c_5 => ?_) (fun c_5 => ?_)
    · skip
      exact absurd (show u = 0 by omega) c_5
    · skip
      refine j_bipush jb dJ6_numberOfLeadingZeros_0f7a4_8 (by decide) ?_
      refine j_goto (tgt := 14) jb dJ6_numberOfLeadingZeros_0f7a4_10 (by decide) ?_
      refine j_norm (lv' := []) (st' := [.int (iI 32)]) (ws' := []) [] [] rfl rfl (by decide) rfl ?_
      exact j_iret jb jr dJ6_numberOfLeadingZeros_0f7a4_14 ⟨_, rfl, rfl, (by rw [show u = 0 by omega]; exact bl_0 (by decide))⟩

set_option maxHeartbeats 4000000 in
set_option maxRecDepth 100000 in
theorem C_X8_countParts (l : Launch) (g : GG) (h0 hk hx : Nat) (kd ws bi p : Int) (hp : -1 ≤ p ∧ p ≤ 4) : Ctr l g yX8_countParts cX8_countParts 1 (some .int) 0 0 0 0 [.ref h0] [(h0, oX8 hk hx kd ws bi p)] (fun vv ww => ∃ (r : Int), vv = some (.int (iI r)) ∧ ww = [(h0, oX8 hk hx kd ws bi p)] ∧ r = cparts p) := by
  refine Ctr.of [(0, .ref h0)] (by decide) (Nat.le_of_ble_eq_true rfl) rfl ?_
  intro x hxl hxg jb jr hin
  subst hxl; subst hxg
  refine j_aload_n jb dX8_countParts_0 0 rfl ?_
  refine j_get jb f_X8_18 dX8_countParts_1 0 rfl rfl ?_
  refine j_iconst jb dX8_countParts_4 ?_
  refine j_icmp_ne (tgt := 12) jb dX8_countParts_5 (by decide) (by omega) (by omega) (fun c_5 => ?_) (fun c_5 => ?_)
  · skip
    refine j_iconst jb dX8_countParts_12 ?_
    refine j_aload_n jb dX8_countParts_13 0 rfl ?_
    refine j_get jb f_X8_18 dX8_countParts_14 0 rfl rfl ?_
    refine j_ishl jb dX8_countParts_17 (by omega) ?_
    refine j_norm (lv' := []) (st' := [.int (iI (1 * 2 ^ p.toNat))]) (ws' := [(h0, oX8 hk hx kd ws bi p)]) [] [0] rfl rfl (by decide) rfl ?_
    exact j_iret jb jr dX8_countParts_18 ⟨_, rfl, rfl, (by unfold cparts; first | (rw [if_pos (by omega)]; done) | (rw [if_neg (by omega), Int.one_mul]; done))⟩
  · skip
    refine j_iconst jb dX8_countParts_8 ?_
    refine j_goto (tgt := 18) jb dX8_countParts_9 (by decide) ?_
    refine j_norm (lv' := []) (st' := [.int (iI 0)]) (ws' := [(h0, oX8 hk hx kd ws bi p)]) [] [0] rfl rfl (by decide) rfl ?_
    exact j_iret jb jr dX8_countParts_18 ⟨_, rfl, rfl, (by unfold cparts; first | (rw [if_pos (by omega)]; done) | (rw [if_neg (by omega), Int.one_mul]; done))⟩

set_option maxHeartbeats 4000000 in
set_option maxRecDepth 100000 in
theorem C_X8_copyFrom (l : Launch) (g : GG) (h0 hk hx g0 gk gx : Nat) (kd ws bi p kd2 ws2 bi2 p2 : Int) (fk fx ek ex : Int → Int)  : Ctr l g yX8_copyFrom cX8_copyFrom 2 none 1 60 0 0 [.ref h0, .ref g0] [(h0, oX8 hk hx kd ws bi p), (hk, aI g 16 fk), (hx, aI g 16 fx), (g0, oX8 gk gx kd2 ws2 bi2 p2), (gk, aI g 16 ek), (gx, aI g 16 ex)] (fun vv ww => ∃ (fk2 fx2 : Int → Int), vv = none ∧ ww = [(h0, oX8 hk hx kd2 ws2 bi2 p2), (hk, aI g 16 fk2), (hx, aI g 16 fx2), (g0, oX8 gk gx kd2 ws2 bi2 p2), (gk, aI g 16 ek), (gx, aI g 16 ex)] ∧ (∀ j, 0 ≤ j → j < 16 → fk2 j = ek j) ∧ (∀ j, 0 ≤ j → j < 16 → fx2 j = ex j)) := by
  refine Ctr.of [(0, .ref h0), (1, .ref g0)] (by decide) (Nat.le_of_ble_eq_true rfl) rfl ?_
  intro x hxl hxg jb jr hin
  subst hxl; subst hxg
  refine j_aload_n jb dX8_copyFrom_0 0 rfl ?_
  refine j_aload_n jb dX8_copyFrom_1 1 rfl ?_
  refine j_get jb f_X8_22 dX8_copyFrom_2 3 rfl rfl ?_
  refine j_put (ws' := [(h0, oX8 hk hx kd2 ws bi p), (hk, aI x.g 16 fk), (hx, aI x.g 16 fx), (g0, oX8 gk gx kd2 ws2 bi2 p2), (gk, aI x.g 16 ek), (gx, aI x.g 16 ex)]) jb f_X8_22 w_X8_2 rfl dX8_copyFrom_5 0 rfl rfl rfl (Nat.le_of_ble_eq_true rfl) rfl ?_
  refine j_aload_n jb dX8_copyFrom_8 0 rfl ?_
  refine j_aload_n jb dX8_copyFrom_9 1 rfl ?_
  refine j_get jb f_X8_25 dX8_copyFrom_10 3 rfl rfl ?_
  refine j_put (ws' := [(h0, oX8 hk hx kd2 ws2 bi p), (hk, aI x.g 16 fk), (hx, aI x.g 16 fx), (g0, oX8 gk gx kd2 ws2 bi2 p2), (gk, aI x.g 16 ek), (gx, aI x.g 16 ex)]) jb f_X8_25 w_X8_3 rfl dX8_copyFrom_13 0 rfl rfl rfl (Nat.le_of_ble_eq_true rfl) rfl ?_
  refine j_aload_n jb dX8_copyFrom_16 0 rfl ?_
  refine j_aload_n jb dX8_copyFrom_17 1 rfl ?_
  refine j_get jb f_X8_28 dX8_copyFrom_18 3 rfl rfl ?_
  refine j_put (ws' := [(h0, oX8 hk hx kd2 ws2 bi2 p), (hk, aI x.g 16 fk), (hx, aI x.g 16 fx), (g0, oX8 gk gx kd2 ws2 bi2 p2), (gk, aI x.g 16 ek), (gx, aI x.g 16 ex)]) jb f_X8_28 w_X8_4 rfl dX8_copyFrom_21 0 rfl rfl rfl (Nat.le_of_ble_eq_true rfl) rfl ?_
  refine j_aload_n jb dX8_copyFrom_24 0 rfl ?_
  refine j_aload_n jb dX8_copyFrom_25 1 rfl ?_
  refine j_get jb f_X8_18 dX8_copyFrom_26 3 rfl rfl ?_
  refine j_put (ws' := [(h0, oX8 hk hx kd2 ws2 bi2 p2), (hk, aI x.g 16 fk), (hx, aI x.g 16 fx), (g0, oX8 gk gx kd2 ws2 bi2 p2), (gk, aI x.g 16 ek), (gx, aI x.g 16 ex)]) jb f_X8_18 w_X8_5 rfl dX8_copyFrom_29 0 rfl rfl rfl (Nat.le_of_ble_eq_true rfl) rfl ?_
  refine j_aload_n jb dX8_copyFrom_32 1 rfl ?_
  refine j_get jb f_X8_9 dX8_copyFrom_33 3 rfl rfl ?_
  refine j_iconst jb dX8_copyFrom_36 ?_
  refine j_aload_n jb dX8_copyFrom_37 0 rfl ?_
  refine j_get jb f_X8_9 dX8_copyFrom_38 0 rfl rfl ?_
  refine j_iconst jb dX8_copyFrom_41 ?_
  refine j_bipush jb dX8_copyFrom_42 (by decide) ?_
  refine j_copy (ws' := [(h0, oX8 hk hx kd2 ws2 bi2 p2), (hk, aI x.g 16 (zcpy ek fk 0 0 16)), (hx, aI x.g 16 fx), (g0, oX8 gk gx kd2 ws2 bi2 p2), (gk, aI x.g 16 ek), (gx, aI x.g 16 ex)]) jb l_X8_31 ac_native ac_static ac_init 4 1 rfl rfl (by omega) ⟨by decide, Nat.le_of_ble_eq_true rfl⟩ dX8_copyFrom_44 rfl ?_
  refine j_aload_n jb dX8_copyFrom_47 1 rfl ?_
  refine j_get jb f_X8_15 dX8_copyFrom_48 3 rfl rfl ?_
  refine j_iconst jb dX8_copyFrom_51 ?_
  refine j_aload_n jb dX8_copyFrom_52 0 rfl ?_
  refine j_get jb f_X8_15 dX8_copyFrom_53 0 rfl rfl ?_
  refine j_iconst jb dX8_copyFrom_56 ?_
  refine j_bipush jb dX8_copyFrom_57 (by decide) ?_
  refine j_copy (ws' := [(h0, oX8 hk hx kd2 ws2 bi2 p2), (hk, aI x.g 16 (zcpy ek fk 0 0 16)), (hx, aI x.g 16 (zcpy ex fx 0 0 16)), (g0, oX8 gk gx kd2 ws2 bi2 p2), (gk, aI x.g 16 ek), (gx, aI x.g 16 ex)]) jb l_X8_31 ac_native ac_static ac_init 5 2 rfl rfl (by omega) ⟨by decide, Nat.le_of_ble_eq_true rfl⟩ dX8_copyFrom_59 rfl ?_
  refine j_norm (lv' := []) (st' := []) (ws' := [(h0, oX8 hk hx kd2 ws2 bi2 p2), (hk, aI x.g 16 (zcpy ek fk 0 0 16)), (hx, aI x.g 16 (zcpy ex fx 0 0 16)), (g0, oX8 gk gx kd2 ws2 bi2 p2), (gk, aI x.g 16 ek), (gx, aI x.g 16 ex)]) [] [0, 1, 2, 3, 4, 5] rfl rfl (by decide) rfl ?_
  exact j_vret jb jr dX8_copyFrom_62 ⟨_, _, rfl, rfl, ⟨fun j h1 h2 => zcpy_16 h1 h2, fun j h1 h2 => zcpy_16 h1 h2⟩⟩

set_option maxHeartbeats 4000000 in
set_option maxRecDepth 100000 in
theorem C_X10_strip (l : Launch) (g : GG) (h0 hv hf : Nat) (v0 f : Int → Int) (n0 b0 w0 cnt bits : Int) (hc : 0 ≤ cnt ∧ cnt ≤ 400) (hb : 1 ≤ bits ∧ bits ≤ 17) (hf9 : ∀ j, 0 ≤ j → j < cnt → -65536 ≤ f j ∧ f j < 65536) : Ctr l g yX10_strip cX10_strip 7 none 1 60 0 0 [.ref h0, .ref hf, .int (iI cnt), .int (iI bits)] [(h0, oX10 hv n0 b0 w0), (hv, aI g 400 v0), (hf, aI g 400 f)] (fun vv ww => ∃ (v2 : Int → Int) (w : Int), vv = none ∧ ww = [(h0, oX10 hv cnt (bits - w) w), (hv, aI g 400 v2), (hf, aI g 400 f)] ∧ isW (orF f cnt.toNat) bits w ∧ (0 ≤ w ∧ w ≤ 15 ∧ w ≤ bits - 1) ∧ ∀ j, 0 ≤ j → j < cnt → v2 j = f j / 2 ^ w.toNat) := by
  refine Ctr.of [(0, .ref h0), (1, .ref hf), (2, .int (iI cnt)), (3, .int (iI bits))] (by decide) (Nat.le_of_ble_eq_true rfl) rfl ?_
  intro x hxl hxg jb jr hin
  subst hxl; subst hxg
  refine j_iconst jb dX10_strip_0 ?_
  refine j_istore (lv' := [(4, .int (iI 0)), (0, .ref h0), (1, .ref hf), (2, .int (iI cnt)), (3, .int (iI bits))]) jb dX10_strip_1 (by decide) rfl ?_
  refine j_iconst jb dX10_strip_3 ?_
  refine j_istore (lv' := [(5, .int (iI 0)), (4, .int (iI 0)), (0, .ref h0), (1, .ref hf), (2, .int (iI cnt)), (3, .int (iI bits))]) jb dX10_strip_4 (by decide) rfl ?_
  have L6 : ∀ (fu : Nat) (al i : Int), (0 ≤ i ∧ i ≤ cnt ∧ al = orF f i.toNat ∧ -65536 ≤ al ∧ al < 65536) → (cnt - i).toNat < fu → JW x 0 0 6 [(0, .ref h0), (1, .ref hf), (2, .int (iI cnt)), (3, .int (iI bits)), (4, .int (iI al)), (5, .int (iI i))] [] [(h0, oX10 hv n0 b0 w0), (hv, aI x.g 400 v0), (hf, aI x.g 400 f)] := by
    intro fu
    induction fu with
    | zero => intro al i _ hm; exact absurd hm (by omega)
    | succ fu ih =>
      intro al i ⟨hi1, hi2, hi3, hi4, hi5⟩ hm6
      have ih6 := ih
      clear ih
      refine j_iload jb dX10_strip_6 5 rfl ?_
      refine j_iload_n jb dX10_strip_8 2 rfl ?_
      refine j_icmp_ge (tgt := 27) jb dX10_strip_9 (by decide) (by omega) (by omega) (fun c_9 => ?_) (fun c_9 => ?_)
      · skip
        have hin : i = cnt := by omega
        refine j_iload jb dX10_strip_27 4 rfl ?_
        have J41 : ∀ (zz : Int), isZ al zz → JW x 0 0 41 [(0, .ref h0), (1, .ref hf), (2, .int (iI cnt)), (3, .int (iI bits))] [.int (iI zz)] [(h0, oX10 hv n0 b0 w0), (hv, aI x.g 400 v0), (hf, aI x.g 400 f)] := by
          intro zz hz
          have hz2 : -1 ≤ zz ∧ zz ≤ 16 := by (by_cases c : al = 0); { have := hz.1 c; omega }; { have := hz.2 c; omega }
          refine j_istore (lv' := [(5, .int (iI zz)), (0, .ref h0), (1, .ref hf), (2, .int (iI cnt)), (3, .int (iI bits))]) jb dX10_strip_41 (by decide) rfl ?_
          refine j_aload_n jb dX10_strip_43 1 rfl ?_
          refine j_iload jb dX10_strip_44 0 rfl ?_
          refine j_iload_n jb dX10_strip_46 4 rfl ?_
          refine j_iconst jb dX10_strip_47 ?_
          refine j_isub jb dX10_strip_48 ?_
          refine j_bipush jb dX10_strip_49 (by decide) ?_
          refine j_min jb l_X10_21 mi_static mi_init mi_code (by omega) (by omega) ⟨by decide, Nat.le_of_ble_eq_true rfl, by decide, by decide⟩ dX10_strip_51 ?_
          refine j_geni (fun m1 e_m1 => ?_)
          refine j_min jb l_X10_21 mi_static mi_init mi_code (by omega) (by split at e_m1 <;> omega) ⟨by decide, Nat.le_of_ble_eq_true rfl, by decide, by decide⟩ dX10_strip_54 ?_
          refine j_geni (fun w e_w => ?_)
          refine j_put (ws' := [(h0, oX10 hv n0 b0 w), (hv, aI x.g 400 v0), (hf, aI x.g 400 f)]) jb f_X10_27 w_X10_3 rfl dX10_strip_57 0 rfl rfl rfl (Nat.le_of_ble_eq_true rfl) rfl ?_
          have hw := isW_of hb.1 hz e_m1 e_w
          refine j_aload_n jb dX10_strip_60 1 rfl ?_
          refine j_iload_n jb dX10_strip_61 3 rfl ?_
          refine j_put (ws' := [(h0, oX10 hv cnt b0 w), (hv, aI x.g 400 v0), (hf, aI x.g 400 f)]) jb f_X10_31 w_X10_1 rfl dX10_strip_62 0 rfl rfl rfl (Nat.le_of_ble_eq_true rfl) rfl ?_
          refine j_aload_n jb dX10_strip_65 1 rfl ?_
          refine j_iload_n jb dX10_strip_66 4 rfl ?_
          refine j_aload_n jb dX10_strip_67 1 rfl ?_
          refine j_get jb f_X10_27 dX10_strip_68 0 rfl rfl ?_
          refine j_isub jb dX10_strip_71 ?_
          refine j_put (ws' := [(h0, oX10 hv cnt (bits - w) w), (hv, aI x.g 400 v0), (hf, aI x.g 400 f)]) jb f_X10_34 w_X10_2 rfl dX10_strip_72 0 rfl rfl rfl (Nat.le_of_ble_eq_true rfl) rfl ?_
          refine j_iconst jb dX10_strip_75 ?_
          refine j_istore (lv' := [(6, .int (iI 0)), (5, .int (iI zz)), (0, .ref h0), (1, .ref hf), (2, .int (iI cnt)), (3, .int (iI bits))]) jb dX10_strip_76 (by decide) rfl ?_
          have L78 : ∀ (fu : Nat) (i2 : Int) (v1 : Int → Int), (0 ≤ i2 ∧ i2 ≤ cnt ∧ ∀ j, 0 ≤ j → j < i2 → v1 j = f j / 2 ^ w.toNat) → (cnt - i2).toNat < fu → JW x 0 0 78 [(0, .ref h0), (1, .ref hf), (2, .int (iI cnt)), (3, .int (iI bits)), (6, .int (iI i2))] [] [(h0, oX10 hv cnt (bits - w) w), (hv, aI x.g 400 v1), (hf, aI x.g 400 f)] := by
            intro fu
            induction fu with
            | zero => intro i2 v1 _ hm; exact absurd hm (by omega)
            | succ fu ih =>
              intro i2 v1 ⟨hk1, hk2, hk3⟩ hm78
              have ih78 := ih
              clear ih
              refine j_iload jb dX10_strip_78 4 rfl ?_
              refine j_iload_n jb dX10_strip_80 2 rfl ?_
              refine j_icmp_ge (tgt := 106) jb dX10_strip_81 (by decide) (by omega) (by omega) (fun c_81 => ?_) (fun c_81 => ?_)
              · skip
                refine j_norm (lv' := []) (st' := []) (ws' := [(h0, oX10 hv cnt (bits - w) w), (hv, aI x.g 400 v1), (hf, aI x.g 400 f)]) [] [0, 1, 2] rfl rfl (by decide) rfl ?_
                exact j_vret jb jr dX10_strip_106 ⟨_, _, rfl, rfl, ⟨by rw [← hin, ← hi3]; exact hw.1, hw.2, fun j h1 h2 => hk3 j h1 (by omega)⟩⟩
              · skip
                have hfi := hf9 i2 hk1 (by omega)
                refine j_aload_n jb dX10_strip_84 0 rfl ?_
                refine j_get jb f_X10_9 dX10_strip_85 0 rfl rfl ?_
                refine j_iload jb dX10_strip_88 4 rfl ?_
                refine j_aload_n jb dX10_strip_90 1 rfl ?_
                refine j_iload jb dX10_strip_91 4 rfl ?_
                refine j_iald jb dX10_strip_93 2 rfl (by omega) (by decide) ?_
                refine j_aload_n jb dX10_strip_94 0 rfl ?_
                refine j_get jb f_X10_27 dX10_strip_95 0 rfl rfl ?_
                refine j_ishr jb dX10_strip_98 (by omega) (by omega) ?_
                refine j_iast (ws' := [(h0, oX10 hv cnt (bits - w) w), (hv, aI x.g 400 (zup v1 i2 ((f i2) / 2 ^ w.toNat))), (hf, aI x.g 400 f)]) jb dX10_strip_99 1 rfl (by omega) (by decide) rfl ?_
                refine j_iinc (lv' := [(6, .int (iI (i2 + 1))), (0, .ref h0), (1, .ref hf), (2, .int (iI cnt)), (3, .int (iI bits))]) jb dX10_strip_100 4 rfl (by decide) rfl ?_
                refine j_goto (tgt := 78) jb dX10_strip_103 (by decide) ?_
                refine j_norm (lv' := [(0, .ref h0), (1, .ref hf), (2, .int (iI cnt)), (3, .int (iI bits)), (6, .int (iI (i2 + 1)))]) (st' := []) (ws' := [(h0, oX10 hv cnt (bits - w) w), (hv, aI x.g 400 (zup v1 i2 ((f i2) / 2 ^ w.toNat))), (hf, aI x.g 400 f)]) [1, 2, 3, 4, 0] [0, 1, 2] rfl rfl (by decide) rfl ?_
                exact ih78 (i2 + 1) (zup v1 i2 ((f i2) / 2 ^ w.toNat)) ⟨by omega, by omega, fun j h1 h2 => by (by_cases e : j = i2); { rw [e, zup_s] }; { rw [zup_n e]; exact hk3 j h1 (by omega) }⟩ (by omega)
          refine j_norm (lv' := [(0, .ref h0), (1, .ref hf), (2, .int (iI cnt)), (3, .int (iI bits)), (6, .int (iI 0))]) (st' := []) (ws' := [(h0, oX10 hv cnt (bits - w) w), (hv, aI x.g 400 v0), (hf, aI x.g 400 f)]) [2, 3, 4, 5, 0] [0, 1, 2] rfl rfl (by decide) rfl ?_
          exact L78 _ 0 v0 ⟨by decide, hc.1, fun j h1 h2 => by omega⟩ (Nat.lt_succ_self _)
        refine j_if_ne (tgt := 36) jb dX10_strip_29 (by decide) (by omega) (fun c_29 => ?_) (fun c_29 => ?_)
        · skip
          refine j_iload jb dX10_strip_36 4 rfl ?_
          refine j_callS (wr := [(h0, oX10 hv n0 b0 w0), (hv, aI x.g 400 v0), (hf, aI x.g 400 f)]) jb k_J6_numberOfTrailingZeros_0f7a4 t_J6_numberOfTrailingZeros_0f7a4 l_X10_15 (C_J6_numberOfTrailingZeros_0f7a4 x.l x.g al c_29 (by omega)) [] [0, 1, 2] (by decide) rfl rfl (by decide) (by decide) rfl rfl (Nat.le_of_ble_eq_true rfl) (by decide) dX10_strip_38 (fun v w hp => ?_)
          obtain ⟨zr, rfl, rfl, h38⟩ := hp
          refine j_norm (lv' := [(0, .ref h0), (1, .ref hf), (2, .int (iI cnt)), (3, .int (iI bits)), (4, .int (iI al)), (5, .int (iI i))]) (st' := [.int (iI zr)]) (ws' := [(h0, oX10 hv n0 b0 w0), (hv, aI x.g 400 v0), (hf, aI x.g 400 f)]) [0, 1, 2, 3, 4, 5] [0, 1, 2] rfl rfl (by decide) rfl ?_
          refine j_norm (lv' := [(0, .ref h0), (1, .ref hf), (2, .int (iI cnt)), (3, .int (iI bits))]) (st' := [.int (iI zr)]) (ws' := [(h0, oX10 hv n0 b0 w0), (hv, aI x.g 400 v0), (hf, aI x.g 400 f)]) [0, 1, 2, 3] [0, 1, 2] rfl rfl (by decide) rfl ?_
          exact J41 zr ⟨fun h => absurd h c_29, fun _ => h38⟩
        · skip
          refine j_iconst jb dX10_strip_32 ?_
          refine j_goto (tgt := 41) jb dX10_strip_33 (by decide) ?_
          refine j_norm (lv' := [(0, .ref h0), (1, .ref hf), (2, .int (iI cnt)), (3, .int (iI bits))]) (st' := [.int (iI 0)]) (ws' := [(h0, oX10 hv n0 b0 w0), (hv, aI x.g 400 v0), (hf, aI x.g 400 f)]) [0, 1, 2, 3] [0, 1, 2] rfl rfl (by decide) rfl ?_
          exact J41 0 ⟨fun _ => rfl, fun h => absurd c_29 h⟩
      · skip
        refine j_iload jb dX10_strip_12 4 rfl ?_
        refine j_aload_n jb dX10_strip_14 1 rfl ?_
        refine j_iload jb dX10_strip_15 5 rfl ?_
        refine j_iald jb dX10_strip_17 2 rfl (by omega) (by decide) ?_
        refine j_ior jb dX10_strip_18 ?_
        refine j_istore (lv' := [(4, .int (iI (zOr al (f i)))), (0, .ref h0), (1, .ref hf), (2, .int (iI cnt)), (3, .int (iI bits)), (5, .int (iI i))]) jb dX10_strip_19 (by decide) rfl ?_
        refine j_iinc (lv' := [(5, .int (iI (i + 1))), (4, .int (iI (zOr al (f i)))), (0, .ref h0), (1, .ref hf), (2, .int (iI cnt)), (3, .int (iI bits))]) jb dX10_strip_21 5 rfl (by decide) rfl ?_
        refine j_goto (tgt := 6) jb dX10_strip_24 (by decide) ?_
        refine j_norm (lv' := [(0, .ref h0), (1, .ref hf), (2, .int (iI cnt)), (3, .int (iI bits)), (4, .int (iI (zOr al (f i)))), (5, .int (iI (i + 1)))]) (st' := []) (ws' := [(h0, oX10 hv n0 b0 w0), (hv, aI x.g 400 v0), (hf, aI x.g 400 f)]) [2, 3, 4, 5, 1, 0] [0, 1, 2] rfl rfl (by decide) rfl ?_
        exact ih6 (zOr al (f i)) (i + 1) ⟨by omega, by omega, orF_next hi1 hi3, (zOr_17 ⟨hi4, hi5⟩ (hf9 i hi1 (by omega))).1, (zOr_17 ⟨hi4, hi5⟩ (hf9 i hi1 (by omega))).2⟩ (by omega)
  refine j_norm (lv' := [(0, .ref h0), (1, .ref hf), (2, .int (iI cnt)), (3, .int (iI bits)), (4, .int (iI 0)), (5, .int (iI 0))]) (st' := []) (ws' := [(h0, oX10 hv n0 b0 w0), (hv, aI x.g 400 v0), (hf, aI x.g 400 f)]) [2, 3, 4, 5, 1, 0] [0, 1, 2] rfl rfl (by decide) rfl ?_
  exact L6 _ 0 0 ⟨by decide, hc.1, rfl, by decide, by decide⟩ (Nat.lt_succ_self _)

set_option maxHeartbeats 4000000 in
set_option maxRecDepth 100000 in
theorem C_X10_areAlike (l : Launch) (g : GG) (h0 hv : Nat) (v : Int → Int) (n b w : Int) (hn : 0 ≤ n ∧ n ≤ 400) (hv9 : ∀ j, 0 ≤ j → j < n → inR (v j)) : Ctr l g yX10_areAlike cX10_areAlike 2 (some .boolean) 0 0 0 0 [.ref h0] [(h0, oX10 hv n b w), (hv, aI g 400 v)] (fun vv ww => vv = some (.int (iI (b2i (alk v n.toNat = true)))) ∧ ww = [(h0, oX10 hv n b w), (hv, aI g 400 v)]) := by
  refine Ctr.of [(0, .ref h0)] (by decide) (Nat.le_of_ble_eq_true rfl) rfl ?_
  intro x hxl hxg jb jr hin
  subst hxl; subst hxg
  refine j_iconst jb dX10_areAlike_0 ?_
  refine j_istore_n (lv' := [(1, .int (iI 1)), (0, .ref h0)]) jb dX10_areAlike_1 rfl (by decide) rfl ?_
  have L2 : ∀ (fu : Nat) (i : Int), (1 ≤ i ∧ ((n = 0 ∧ i = 1) ∨ i ≤ n) ∧ (i ≤ n → alk v i.toNat = true)) → (n - i).toNat < fu → JW x 0 0 2 [(0, .ref h0), (1, .int (iI i))] [] [(h0, oX10 hv n b w), (hv, aI x.g 400 v)] := by
    intro fu
    induction fu with
    | zero => intro i _ hm; exact absurd hm (by omega)
    | succ fu ih =>
      intro i ⟨hi1, hi2, hi3⟩ hm2
      have ih2 := ih
      clear ih
      refine j_iload_n jb dX10_areAlike_2 1 rfl ?_
      refine j_aload_n jb dX10_areAlike_3 0 rfl ?_
      refine j_get jb f_X10_31 dX10_areAlike_4 0 rfl rfl ?_
      refine j_icmp_ge (tgt := 33) jb dX10_areAlike_7 (by decide) (by omega) (by omega) (fun c_7 => ?_) (fun c_7 => ?_)
      · skip
        refine j_iconst jb dX10_areAlike_33 ?_
        refine j_norm (lv' := []) (st' := [.int (iI 1)]) (ws' := [(h0, oX10 hv n b w), (hv, aI x.g 400 v)]) [] [0, 1] rfl rfl (by decide) rfl ?_
        exact j_zret jb jr dX10_areAlike_34 rfl ⟨(vb1 (by rcases hi2 with h | h; { rw [h.1]; rfl }; { rw [show n = i by omega]; exact hi3 (by omega) })), rfl⟩
      · skip
        have hvi := hv9 i (by omega) (by omega)
        have hv0 := hv9 0 (by omega) (by omega)
        refine j_aload_n jb dX10_areAlike_10 0 rfl ?_
        refine j_get jb f_X10_9 dX10_areAlike_11 0 rfl rfl ?_
        refine j_iload_n jb dX10_areAlike_14 1 rfl ?_
        refine j_iald jb dX10_areAlike_15 1 rfl (by omega) (by decide) ?_
        refine j_aload_n jb dX10_areAlike_16 0 rfl ?_
        refine j_get jb f_X10_9 dX10_areAlike_17 0 rfl rfl ?_
        refine j_iconst jb dX10_areAlike_20 ?_
        refine j_iald jb dX10_areAlike_21 1 rfl (by omega) (by decide) ?_
        refine j_icmp_eq (tgt := 27) jb dX10_areAlike_22 (by decide) (by omega) (by omega) (fun c_22 => ?_) (fun c_22 => ?_)
        · skip
          refine j_iinc (lv' := [(1, .int (iI (i + 1))), (0, .ref h0)]) jb dX10_areAlike_27 1 rfl (by decide) rfl ?_
          refine j_goto (tgt := 2) jb dX10_areAlike_30 (by decide) ?_
          refine j_norm (lv' := [(0, .ref h0), (1, .int (iI (i + 1)))]) (st' := []) (ws' := [(h0, oX10 hv n b w), (hv, aI x.g 400 v)]) [1, 0] [0, 1] rfl rfl (by decide) rfl ?_
          exact ih2 (i + 1) ⟨by omega, by omega, fun _ => alk_step (by omega) (hi3 (by omega)) c_22⟩ (by omega)
        · skip
          refine j_iconst jb dX10_areAlike_25 ?_
          refine j_norm (lv' := []) (st' := [.int (iI 0)]) (ws' := [(h0, oX10 hv n b w), (hv, aI x.g 400 v)]) [] [0, 1] rfl rfl (by decide) rfl ?_
          exact j_zret jb jr dX10_areAlike_26 rfl ⟨(vb0 (by rw [alk_no (i := i) (by omega) c_22 n.toNat (by omega)]; decide)), rfl⟩
  refine j_norm (lv' := [(0, .ref h0), (1, .int (iI 1))]) (st' := []) (ws' := [(h0, oX10 hv n b w), (hv, aI x.g 400 v)]) [1, 0] [0, 1] rfl rfl (by decide) rfl ?_
  exact L2 _ 1 ⟨by decide, by omega, fun _ => alk_1 v⟩ (Nat.lt_succ_self _)

set_option maxHeartbeats 4000000 in
set_option maxRecDepth 100000 in
theorem C_X10_foldedRest (l : Launch) (g : GG) (h0 hv q0 qc : Nat) (v cf : Int → Int) (n b w o sh i : Int) (ho : 0 ≤ o ∧ o ≤ 4) (hs : 0 ≤ sh ∧ sh ≤ 15) (hi : o ≤ i ∧ i < 400) (hcf : cfOk cf) (hv9 : vOk v (i + 1)) : Ctr l g yX10_foldedRest cX10_foldedRest 4 (some .int) 1 60 0 0 [.ref h0, .ref q0, .int (iI i)] [(h0, oX10 hv n b w), (hv, aI g 400 v), (q0, oX1 qc o sh), (qc, aI g 4 cf)] (fun vv ww => ∃ (r : Int), vv = some (.int (iI r)) ∧ ww = [(h0, oX10 hv n b w), (hv, aI g 400 v), (q0, oX1 qc o sh), (qc, aI g 4 cf)] ∧ r = fld (v i - ft cf v o sh i)) := by
  refine Ctr.of [(0, .ref h0), (1, .ref q0), (2, .int (iI i))] (by decide) (Nat.le_of_ble_eq_true rfl) rfl ?_
  intro x hxl hxg jb jr hin
  subst hxl; subst hxg
  have hv8 : vOk v i := fun j h1 h2 => hv9 j h1 (by omega)
  have hvi := hv9 i (by omega) (by omega)
  have hft := ft_in (sh := sh) ho hi.1 hcf hv8
  have hfd : ft cf v o sh i = fsum cf v i o.toNat / 2 ^ sh.toNat := rfl
  refine j_aload_n jb dX10_foldedRest_0 0 rfl ?_
  refine j_get jb f_X10_9 dX10_foldedRest_1 0 rfl rfl ?_
  refine j_iload_n jb dX10_foldedRest_4 2 rfl ?_
  refine j_iald jb dX10_foldedRest_5 1 rfl (by omega) (by decide) ?_
  refine j_aload_n jb dX10_foldedRest_6 1 rfl ?_
  refine j_aload_n jb dX10_foldedRest_7 0 rfl ?_
  refine j_get jb f_X10_9 dX10_foldedRest_8 0 rfl rfl ?_
  refine j_iload_n jb dX10_foldedRest_11 2 rfl ?_
  refine j_callV (wr := [(h0, oX10 hv n b w)]) jb k_X1_foretell i_X1_foretell s_X1_foretell l_X10_37 (C_X1_foretell x.l x.g q0 qc hv cf v o sh i (by omega) (by omega) (by omega) hcf hv8) 2 3 rfl rfl rfl [2, 3, 1] [0] (by decide) rfl rfl (by decide) (by decide) rfl rfl (Nat.le_of_ble_eq_true rfl) (by decide) dX10_foldedRest_12 (fun v w hp => ?_)
  obtain ⟨rfl, rfl⟩ := hp
  refine j_norm (lv' := [(0, .ref h0), (1, .ref q0), (2, .int (iI i))]) (st' := [.int (iI (fsum cf v i o.toNat / 2 ^ sh.toNat)), .int (iI (v i))]) (ws' := [(h0, oX10 hv n b w), (hv, aI x.g 400 v), (q0, oX1 qc o sh), (qc, aI x.g 4 cf)]) [0, 1, 2] [0, 3, 1, 2] rfl rfl (by decide) rfl ?_
  refine j_isub jb dX10_foldedRest_15 ?_
  refine j_topi (v i - ft cf v o sh i) rfl ?_
  refine j_istore_n (lv' := [(3, .int (iI (v i - ft cf v o sh i))), (0, .ref h0), (1, .ref q0), (2, .int (iI i))]) jb dX10_foldedRest_16 rfl (by decide) rfl ?_
  refine j_iload_n jb dX10_foldedRest_17 0 rfl ?_
  refine j_if_ge (tgt := 30) jb dX10_foldedRest_18 (by decide) (by omega) (fun c_18 => ?_) (fun c_18 => ?_)
  · skip
    refine j_iconst jb dX10_foldedRest_30 ?_
    refine j_iload_n jb dX10_foldedRest_31 0 rfl ?_
    refine j_imul jb dX10_foldedRest_32 ?_
    refine j_norm (lv' := []) (st' := [.int (iI (2 * (v i - ft cf v o sh i)))]) (ws' := [(h0, oX10 hv n b w), (hv, aI x.g 400 v), (q0, oX1 qc o sh), (qc, aI x.g 4 cf)]) [] [0, 1, 2, 3] rfl rfl (by decide) rfl ?_
    exact j_iret jb jr dX10_foldedRest_33 ⟨_, rfl, rfl, (by unfold fld; first | (rw [if_pos (by omega)]; done) | (rw [if_neg (by omega)]; done))⟩
  · skip
    refine j_bipush jb dX10_foldedRest_21 (by decide) ?_
    refine j_iload_n jb dX10_foldedRest_23 0 rfl ?_
    refine j_imul jb dX10_foldedRest_24 ?_
    refine j_iconst jb dX10_foldedRest_25 ?_
    refine j_isub jb dX10_foldedRest_26 ?_
    refine j_goto (tgt := 33) jb dX10_foldedRest_27 (by decide) ?_
    refine j_norm (lv' := []) (st' := [.int (iI (((-2) * (v i - ft cf v o sh i)) - 1))]) (ws' := [(h0, oX10 hv n b w), (hv, aI x.g 400 v), (q0, oX1 qc o sh), (qc, aI x.g 4 cf)]) [] [0, 1, 2, 3] rfl rfl (by decide) rfl ?_
    exact j_iret jb jr dX10_foldedRest_33 ⟨_, rfl, rfl, (by unfold fld; first | (rw [if_pos (by omega)]; done) | (rw [if_neg (by omega)]; done))⟩

