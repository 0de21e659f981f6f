/-! ===== pure words of the bit stream ===== -/
theorem vb1 {p : Prop} [Decidable p] (h : p) : some (Value.int (iI 1)) = some (Value.int (iI (b2i p))) := by rw [b2i_t h]
theorem vb0 {p : Prop} [Decidable p] (h : ¬ p) : some (Value.int (iI 0)) = some (Value.int (iI (b2i p))) := by rw [b2i_f h]
def isBytes (B : Int → Int) : Prop := ∀ j, 0 ≤ j → j < 2400 → 0 ≤ B j ∧ B j < 256
def fltIf (wr fa which : Int) : Int := if wr ≠ 0 ∧ fa = 0 then which else fa
/-- bit q of the bytes B -/
def bitAt (B : Int → Int) (q : Int) : Int := B (q / 8) / 2 ^ (7 - q % 8).toNat % 2
/-- k bits from q on, as a number -/
def num (B : Int → Int) (q : Int) : Nat → Int
  | 0 => 0
  | k + 1 => 2 * num B q k + bitAt B (q + k)
theorem bitAt_01 (B : Int → Int) (q : Int) : 0 ≤ bitAt B q ∧ bitAt B q < 2 := by unfold bitAt; omega
theorem num_in (B : Int → Int) (q : Int) (k : Nat) : 0 ≤ num B q k ∧ num B q k < 2 ^ k := by
  induction k with
  | zero => exact ⟨Int.le_refl _, show (0 : Int) < 1 by decide⟩
  | succ k ih =>
    have h := bitAt_01 B (q + k)
    have e : (2 : Int) ^ (k + 1) = 2 * 2 ^ k := by rw [Int.pow_succ, Int.mul_comm]
    rw [e]
    unfold num
    omega
theorem zAnd_7 (a : Int) : zAnd a 7 = a % 8 := zAnd_mask 3 (by decide) (by decide)
theorem zAnd_1 (a : Int) : zAnd a 1 = a % 2 := zAnd_mask 1 (by decide) (by decide)
theorem p3 (a : Int) : a / 2 ^ (3 : Int).toNat = a / 8 := by rfl
/-- read(bits): what comes, and the place and fault behind it -/
def rdOk (len fa pos bits : Int) : Prop := fa = 0 ∧ pos + bits ≤ 8 * len
theorem ediv8 {p n : Int} (h0 : 0 ≤ p) (h1 : p < 8 * n) : 0 ≤ p / 8 ∧ p / 8 < n := by omega
