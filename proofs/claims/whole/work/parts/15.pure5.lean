/-! ===== parts: their prices ===== -/
def kb (S : Nat → Int) (cnt : Int) (j : Nat) : Int := 4 + S j + cnt * (1 + (j : Int))
/-- the cheapest k up to m, the first of like ones: its price, k -/
def kBest (S : Nat → Int) (cnt : Int) : Nat → Int × Int
  | 0 => (kb S cnt 0, 0)
  | m + 1 => if kb S cnt (m + 1) < (kBest S cnt m).1 then (kb S cnt (m + 1), (m : Int) + 1) else kBest S cnt m
def partSel (S : Nat → Int) (cnt x : Int) : Int × Int × Int := if 9 + cnt * x < (kBest S cnt 14).1 then (9 + cnt * x, 15, x) else ((kBest S cnt 14).1, (kBest S cnt 14).2, -1)
theorem kB_0 (S : Nat → Int) (cnt : Int) : kBest S cnt 0 = (kb S cnt 0, 0) := rfl
theorem kB_new {S : Nat → Int} {cnt j : Int} (hj : 0 ≤ j) (h : j = 0 ∨ kb S cnt j.toNat < (kBest S cnt (j - 1).toNat).1) : kBest S cnt j.toNat = (kb S cnt j.toNat, j) := by
  by_cases c : j = 0
  · rw [c]; rfl
  · rcases h with h | h
    · exact absurd h c
    · rw [show j.toNat = (j - 1).toNat + 1 by omega] at h ⊢
      show (if kb S cnt ((j - 1).toNat + 1) < (kBest S cnt (j - 1).toNat).1 then (kb S cnt ((j - 1).toNat + 1), ((j - 1).toNat : Int) + 1) else kBest S cnt (j - 1).toNat) = _
      rw [if_pos h, show ((j - 1).toNat : Int) + 1 = j by omega]
theorem kB_old {S : Nat → Int} {cnt j : Int} (hj : 0 < j) (h : ¬ kb S cnt j.toNat < (kBest S cnt (j - 1).toNat).1) : kBest S cnt j.toNat = kBest S cnt (j - 1).toNat := by
  rw [show j.toNat = (j - 1).toNat + 1 by omega] at h ⊢
  show (if kb S cnt ((j - 1).toNat + 1) < (kBest S cnt (j - 1).toNat).1 then (kb S cnt ((j - 1).toNat + 1), ((j - 1).toNat : Int) + 1) else kBest S cnt (j - 1).toNat) = _
  rw [if_neg h]
theorem kb_in {S : Nat → Int} {cnt : Int} (hc : 0 ≤ cnt ∧ cnt ≤ 400) (hS : ∀ t : Nat, t < 15 → 0 ≤ S t ∧ S t ≤ 17179869184) {j : Nat} (hj : j < 15) : 4 ≤ kb S cnt j ∧ kb S cnt j ≤ 17179876000 := by
  have h1 := hS j hj
  have h2 := mul_in (A := 400) (C := 15) (a := cnt) (b := 1 + (j : Int)) (by omega) (by omega) (by decide)
  have h3 : 0 ≤ cnt * (1 + (j : Int)) := Int.mul_nonneg hc.1 (by omega)
  unfold kb
  omega
theorem kBest_in {S : Nat → Int} {cnt : Int} (hc : 0 ≤ cnt ∧ cnt ≤ 400) (hS : ∀ t : Nat, t < 15 → 0 ≤ S t ∧ S t ≤ 17179869184) : ∀ m : Nat, m < 15 → (4 ≤ (kBest S cnt m).1 ∧ (kBest S cnt m).1 ≤ 17179876000) ∧ 0 ≤ (kBest S cnt m).2 ∧ (kBest S cnt m).2 ≤ m
  | 0, h => ⟨kb_in hc hS h, show (0 : Int) ≤ 0 by decide, show (0 : Int) ≤ ((0 : Nat) : Int) by decide⟩
  | m + 1, h => by
    have ih := kBest_in hc hS m (by omega)
    have h1 := kb_in hc hS h
    show (4 ≤ (if kb S cnt (m + 1) < (kBest S cnt m).1 then (kb S cnt (m + 1), (m : Int) + 1) else kBest S cnt m).1 ∧ (if kb S cnt (m + 1) < (kBest S cnt m).1 then (kb S cnt (m + 1), (m : Int) + 1) else kBest S cnt m).1 ≤ _) ∧ 0 ≤ (if kb S cnt (m + 1) < (kBest S cnt m).1 then (kb S cnt (m + 1), (m : Int) + 1) else kBest S cnt m).2 ∧ (if kb S cnt (m + 1) < (kBest S cnt m).1 then (kb S cnt (m + 1), (m : Int) + 1) else kBest S cnt m).2 ≤ _
    split
    · exact ⟨h1, by omega, by simp⟩
    · exact ⟨ih.1, ih.2.1, by have := ih.2.2; omega⟩
theorem div_next {u left j : Int} (hj : 0 ≤ j) (h : left = u / 2 ^ j.toNat) : left / 2 = u / 2 ^ (j + 1).toNat := by
  rw [h, show (j + 1).toNat = j.toNat + 1 by omega, Int.pow_succ, Int.ediv_ediv_of_nonneg (Int.le_of_lt (pw_pos j))]
theorem div_zero {u j t : Int} (hu : 0 ≤ u) (h : 0 = u / 2 ^ j.toNat) (hj : 0 ≤ j) (ht : j ≤ t) : u / 2 ^ t.toNat = 0 := by
  have h1 : u < 2 ^ j.toNat := by
    have := Int.lt_mul_ediv_self_add (x := u) (pw_pos j)
    rw [← h] at this
    omega
  have h2 : (2 : Int) ^ j.toNat ≤ 2 ^ t.toNat := zpow_le (by omega)
  exact Int.ediv_eq_zero_of_lt hu (by omega)
/-- two parts become one: the 1s at a place q of the row -/
def jpO (On : Int → Int) (q : Int) : Int := On (2 * (q / 15) * 15 + q % 15) + On ((2 * (q / 15) + 1) * 15 + q % 15)
def jpU (Un : Int → Int) (j : Int) : Int := zOr (Un (2 * j)) (Un (2 * j + 1))
theorem bl_24 {u x : Int} (h : isBl u x) (hu : u < 16777216) : 0 ≤ x ∧ x ≤ 24 := by
  refine ⟨h.1, ?_⟩
  by_cases c : x ≤ 24
  · exact c
  · have h1 := h.2.2 (by omega)
    have h2 : (2 : Int) ^ 24 ≤ 2 ^ (x - 1).toNat := zpow_le (by omega)
    have h3 : (2 : Int) ^ 24 = 16777216 := by decide
    omega
