/-! ===== what the class's methods answer ===== -/
def rowV (kd ws b p : Int) (K X : Int → Int) (what : Int) : Int := if what = 0 then kd else if what = 1 then ws else if what = 2 then b else if what = 3 then p else if what < 30 then (if cparts p ≤ what - 10 then -2 else K (what - 10)) else (if cparts p ≤ what - 30 then -2 else X (what - 30))
def frN (B : Int → Int) (len : Int) : Nat → Int → Int → Int
  | 0, _, g => g
  | m + 1, pl, g => if len ≤ pl then g else if (frR B len pl).1 = 0 then frN B len m (frR B len pl).2.2.2.2.2.2.2.1 (g + 1) else -10 - g
theorem frN_end {B : Int → Int} {len pl g R : Int} (h : R = frN B len (2400 - g).toNat pl g) (hc : 2400 ≤ g ∨ len ≤ pl) : R = g := by
  rw [h]
  cases hm : (2400 - g).toNat with
  | zero => rfl
  | succ m =>
    show (if len ≤ pl then g else _) = g
    rw [if_pos (by omega)]
theorem frN_bad {B : Int → Int} {len pl g R : Int} (h : R = frN B len (2400 - g).toNat pl g) (hg : g < 2400) (hc : pl < len) (hb : ¬ (frR B len pl).1 = 0) : R = -10 - g := by
  rw [h, show (2400 - g).toNat = (2400 - (g + 1)).toNat + 1 by omega]
  show (if len ≤ pl then g else if (frR B len pl).1 = 0 then _ else -10 - g) = _
  rw [if_neg (by omega), if_neg hb]
theorem frN_next {B : Int → Int} {len pl g R bh : Int} (h : R = frN B len (2400 - g).toNat pl g) (hg : g < 2400) (hc : pl < len) (hb : (frR B len pl).1 = 0) (hh : (frR B len pl).2.2.2.2.2.2.2.1 = bh) : R = frN B len (2400 - (g + 1)).toNat bh (g + 1) := by
  rw [h, show (2400 - g).toNat = (2400 - (g + 1)).toNat + 1 by omega]
  show (if len ≤ pl then g else if (frR B len pl).1 = 0 then frN B len (2400 - (g + 1)).toNat (frR B len pl).2.2.2.2.2.2.2.1 (g + 1) else -10 - g) = _
  rw [if_neg (by omega), if_pos hb, hh]
theorem cparts_in {p : Int} (h : -1 ≤ p ∧ p ≤ 4) : 0 ≤ cparts p ∧ cparts p ≤ 16 := by
  rcases (show p = -1 ∨ p = 0 ∨ p = 1 ∨ p = 2 ∨ p = 3 ∨ p = 4 by omega) with e | e | e | e | e | e <;> rw [e] <;> decide
theorem zcpy_0 {f h : Int → Int} {j n : Int} (h0 : 0 ≤ j) (h1 : j < n) : zcpy f h 0 0 n j = f j := by
  unfold zcpy
  rw [if_pos (by omega)]
  congr 1
  omega
