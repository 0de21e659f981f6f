/-! ===== foretelling ===== -/
def cfOk (c : Int → Int) : Prop := ∀ j, 0 ≤ j → j < 4 → -512 ≤ c j ∧ c j ≤ 511
/-- the values ahead of i -/
def vOk (v : Int → Int) (i : Int) : Prop := ∀ j, 0 ≤ j → j < i → -65536 ≤ v j ∧ v j ≤ 65536
def fsum (c v : Int → Int) (i : Int) : Nat → Int
  | 0 => 0
  | j + 1 => fsum c v i j + c j * v (i - 1 - j)
theorem fsum_next {c v : Int → Int} {i j s : Int} (h0 : 0 ≤ j) (h : s = fsum c v i j.toNat) : s + c j * v (i - 1 - j) = fsum c v i (j + 1).toNat := by
  rw [show (j + 1).toNat = j.toNat + 1 by omega, h]
  show _ = fsum c v i j.toNat + c (j.toNat : Int) * v (i - 1 - (j.toNat : Int))
  rw [show (j.toNat : Int) = j by omega]
theorem mul_in {a b A C : Int} (ha : -A ≤ a ∧ a ≤ A) (hb : -C ≤ b ∧ b ≤ C) (hA : 0 ≤ A) : -(A * C) ≤ a * b ∧ a * b ≤ A * C := by
  have hC : 0 ≤ C := by omega
  have h1 : a.natAbs ≤ A.natAbs := by omega
  have h2 : b.natAbs ≤ C.natAbs := by omega
  have h3 : (a * b).natAbs ≤ (A * C).natAbs := by rw [Int.natAbs_mul, Int.natAbs_mul]; exact Nat.mul_le_mul h1 h2
  have h4 : 0 ≤ A * C := Int.mul_nonneg hA hC
  omega
theorem fsum_in {c v : Int → Int} {i : Int} {n : Nat} (hn : n ≤ 4) (hi : (n : Int) ≤ i) (hc : cfOk c) (hv : vOk v i) : -((n : Int) * 33554432) ≤ fsum c v i n ∧ fsum c v i n ≤ (n : Int) * 33554432 := by
  induction n with
  | zero => exact ⟨show -((0 : Int) * 33554432) ≤ 0 by decide, show (0 : Int) ≤ 0 * 33554432 by decide⟩
  | succ n ih =>
    have h1 := ih (by omega) (by omega)
    have h2 := hc n (by omega) (by omega)
    have h3 := hv (i - 1 - n) (by omega) (by omega)
    have h4 := mul_in (A := 512) (C := 65536) (a := c n) (b := v (i - 1 - n)) (by omega) (by omega) (by decide)
    show _ ≤ fsum c v i n + c n * v (i - 1 - n) ∧ fsum c v i n + c n * v (i - 1 - n) ≤ _
    omega
