theorem ush64 (k : Nat) (hk : k < 64) : (((iI (k : Int)).toInt64.toUInt64 &&& Int64.toUInt64 63).toBitVec % 64#64).toNat = k := by
  rw [iI_nat]
  have h : ∀ n, n < 64 → (((nI n).toInt64.toUInt64 &&& Int64.toUInt64 63).toBitVec % 64#64).toNat = n := by decide +kernel
  exact h k hk
theorem lI_ushr {a k : Int} (h0 : 0 ≤ k) (h1 : k < 64) : ((lI a).toUInt64 >>> ((iI k).toInt64.toUInt64 &&& Int64.toUInt64 63)).toInt64 = lI (a % 18446744073709551616 / 2 ^ k.toNat) := by
  obtain ⟨n, rfl⟩ := Int.eq_ofNat_of_zero_le h0
  apply Int64.toBitVec_inj.mp
  apply BitVec.eq_of_toNat_eq
  show ((lI a).toBitVec >>> (((iI (n : Int)).toInt64.toUInt64 &&& Int64.toUInt64 63).toBitVec % 64#64).toNat).toNat = _
  rw [ush64 n (by omega), BitVec.toNat_ushiftRight, Nat.shiftRight_eq_div_pow, lI_toBv, lI_toBv, BitVec.toNat_ofInt, BitVec.toNat_ofInt, Int.toNat_natCast]
  have e : ((2 ^ 64 : Nat) : Int) = 18446744073709551616 := by decide
  rw [e]
  have hz := zpow_pos n
  have h2 := Int.emod_nonneg a (show (18446744073709551616 : Int) ≠ 0 by decide)
  have h3 := Int.emod_lt_of_pos a (show (0 : Int) < 18446744073709551616 by decide)
  generalize a % 18446744073709551616 = c at h2 h3 ⊢
  obtain ⟨m, rfl⟩ := Int.eq_ofNat_of_zero_le h2
  have h4 : (m : Int) / 2 ^ n = ((m / 2 ^ n : Nat) : Int) := by rw [Int.natCast_ediv, Int.natCast_pow]; rfl
  rw [h4, Int.toNat_natCast]
  have h5 : m / 2 ^ n ≤ m := Nat.div_le_self _ _
  generalize m / 2 ^ n = c at h5 ⊢
  omega
section JRows3
variable {x : XX} {cc : ByteArray} {own : String} {fr lo mc ms nL ck sk pc : Nat} {lv : List (Nat × Value)} {st : List Value} {ws : va_W}
theorem j_lushr (B : JB x cc own fr lo mc ms nL) {a b : Int} (d : decode cc pc = .ok (.lushr, 1)) (h : 0 ≤ b ∧ b < 64) (k : JW x ck sk (pc + 1) lv (.long (lI (a % 18446744073709551616 / 2 ^ b.toNat)) :: st) ws) : JW x ck sk pc lv (.int (iI b) :: .long (lI a) :: st) ws := fun H locs ls hP hD hS hl => lv_lushr B.1 B.2.1 d (lI_ushr h.1 h.2) (k H locs ls hP hD hS hl)
end JRows3
theorem b2i_iff {p q : Prop} [Decidable p] [Decidable q] (h : p ↔ q) : b2i p = b2i q := by
  unfold b2i
  by_cases c : p
  · rw [if_pos c, if_pos (h.mp c)]
  · rw [if_neg c, if_neg (fun z => c (h.mpr z))]
theorem zAnd_1023 (a : Int) : zAnd a 1023 = a % 1024 := zAnd_mask 10 (by decide) (by decide)
/-- ten bits of a long -/
theorem ten_bits (al : Int) (j : Int) (h0 : 0 ≤ j) (h1 : j ≤ 3) : al % 18446744073709551616 / 2 ^ (10 * j).toNat % 1024 = al / 2 ^ (j * 10).toNat % 1024 := by
  rcases (show j = 0 ∨ j = 1 ∨ j = 2 ∨ j = 3 by omega) with e | e | e | e <;> subst e
  · show al % 18446744073709551616 / 1 % 1024 = al / 1 % 1024; omega
  · show al % 18446744073709551616 / 1024 % 1024 = al / 1024 % 1024; omega
  · show al % 18446744073709551616 / 1048576 % 1024 = al / 1048576 % 1024; omega
  · show al % 18446744073709551616 / 1073741824 % 1024 = al / 1073741824 % 1024; omega
theorem ten_sgn (q v : Int) (h : v = q % 1024) : sgn q 10 = if 511 < v then v - 1024 else v := by
  unfold sgn
  rw [show (2 : Int) ^ (10 : Int).toNat = 1024 by decide, show (2 : Int) ^ ((10 : Int) - 1).toNat = 512 by decide, ← h]
  split <;> split <;> omega
theorem nar_b (p : Prop) [Decidable p] : narrow .boolean (.int (iI (b2i p))) = Value.int (iI (b2i p)) := by
  by_cases h : p
  · rw [b2i_t h]; rfl
  · rw [b2i_f h]; rfl
