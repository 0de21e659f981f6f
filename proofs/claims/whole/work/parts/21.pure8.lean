/-! ===== prices of a ROW by its KIND ===== -/
def finF (n o : Int) : Int := if n % 2 = 0 ∧ o ≤ n / 2 then (if n % 4 = 0 ∧ o ≤ n / 4 then (if n % 8 = 0 ∧ o ≤ n / 8 then (if n % 16 = 0 ∧ o ≤ n / 16 then 4 else 3) else 2) else 1) else 0
theorem may_n (n o : Int) : (may n o 1 ↔ n % 2 = 0 ∧ o ≤ n / 2) ∧ (may n o 2 ↔ n % 4 = 0 ∧ o ≤ n / 4) ∧ (may n o 3 ↔ n % 8 = 0 ∧ o ≤ n / 8) ∧ (may n o 4 ↔ n % 16 = 0 ∧ o ≤ n / 16) := ⟨Iff.rfl, Iff.rfl, Iff.rfl, Iff.rfl⟩
theorem isFin_F {n o f : Int} (h : isFin n o f) : f = finF n o := by
  obtain ⟨h0, h4, ha, hb⟩ := h
  obtain ⟨m1, m2, m3, m4⟩ := may_n n o
  unfold finF
  rcases (show f = 0 ∨ f = 1 ∨ f = 2 ∨ f = 3 ∨ f = 4 by omega) with e | e | e | e | e <;> subst e
  · rw [if_neg (fun q => hb (by decide) (m1.mpr q))]
  · rw [if_pos (m1.mp (ha 1 (by decide) (by decide))), if_neg (fun q => hb (by decide) (m2.mpr q))]
  · rw [if_pos (m1.mp (ha 1 (by decide) (by decide))), if_pos (m2.mp (ha 2 (by decide) (by decide))), if_neg (fun q => hb (by decide) (m3.mpr q))]
  · rw [if_pos (m1.mp (ha 1 (by decide) (by decide))), if_pos (m2.mp (ha 2 (by decide) (by decide))), if_pos (m3.mp (ha 3 (by decide) (by decide))), if_neg (fun q => hb (by decide) (m4.mpr q))]
  · rw [if_pos (m1.mp (ha 1 (by decide) (by decide))), if_pos (m2.mp (ha 2 (by decide) (by decide))), if_pos (m3.mp (ha 3 (by decide) (by decide))), if_pos (m4.mp (ha 4 (by decide) (by decide)))]
def pMin (f : Nat → Int) : Nat → Int × Int
  | 0 => (f 0, 0)
  | m + 1 => if f (m + 1) < (pMin f m).1 then (f (m + 1), (m : Int) + 1) else pMin f m
theorem pMin_FM (f : Nat → Int) : ∀ m : Nat, FM f 0 m (pMin f m).1 (pMin f m).2
  | 0 => FM_one (p := 0) rfl
  | m + 1 => by
    obtain ⟨h1, h2, h3, h4, h5⟩ := pMin_FM f m
    show FM f 0 ((m + 1 : Nat) : Int) (if f (m + 1) < (pMin f m).1 then (f (m + 1), (m : Int) + 1) else pMin f m).1 (if f (m + 1) < (pMin f m).1 then (f (m + 1), (m : Int) + 1) else pMin f m).2
    by_cases c : f (m + 1) < (pMin f m).1
    · rw [if_pos c]
      refine ⟨by omega, by omega, by rw [show ((m : Int) + 1).toNat = m + 1 by omega], fun q a b => ?_, fun q a b => ?_⟩
      · show f (m + 1) < f q.toNat
        by_cases d : q < (pMin f m).2
        · have := h4 q a d; omega
        · have := h5 q (by omega) (by omega); omega
      · show f (m + 1) ≤ f q.toNat
        have b' : (m : Int) + 1 ≤ q := a
        rw [show q.toNat = m + 1 by omega]
        exact Int.le_refl _
    · rw [if_neg c]
      refine ⟨h1, by omega, h3, h4, fun q a b => ?_⟩
      by_cases d : q ≤ m
      · exact h5 q a d
      · rw [show q.toNat = m + 1 by omega]; omega
noncomputable def rowP (U : Int → Int) (n o b ex : Int) : Int := @ite _ (o ≤ n ∧ allU U o n) (Classical.propDecidable _) (7 + o * b + ex + (pMin (lvB U n o) (finF n o).toNat).1) (-1)
def rowPp (U : Int → Int) (n o : Int) : Int := (pMin (lvB U n o) (finF n o).toNat).2
theorem rowP_no {U : Int → Int} {n o b ex : Int} (h : ¬ (o ≤ n ∧ allU U o n)) : rowP U n o b ex = -1 := if_neg h
theorem rowP_ok {U : Int → Int} {n o b ex fin r fp : Int} (ho : o ≤ n) (hU : allU U o n) (hf : isFin n o fin) (hm : FM (lvB U n o) 0 fin r fp) : rowP U n o b ex = 7 + o * b + ex + r ∧ rowPp U n o = fp := by
  have e := isFin_F hf
  have h1 := pMin_FM (lvB U n o) (finF n o).toNat
  have h0 := hf.1
  rw [show ((finF n o).toNat : Int) = fin by omega] at h1
  obtain ⟨a, b'⟩ := FM_uni h1 hm
  constructor
  · unfold rowP
    rw [if_pos ⟨ho, hU⟩, a]
  · unfold rowPp
    exact b'
def cFix (o : Int) : Int → Int := fun j => zFixed (o * 4 + j).toNat
theorem fsum_congr {c d v : Int → Int} {i : Int} : ∀ n : Nat, (∀ j : Int, 0 ≤ j → j < n → c j = d j) → fsum c v i n = fsum d v i n
  | 0, _ => rfl
  | n + 1, h => by
    show fsum c v i n + c n * v (i - 1 - n) = fsum d v i n + d n * v (i - 1 - n)
    rw [fsum_congr n (fun j h1 h2 => h j h1 (by omega)), h n (by omega) (by omega)]
theorem rests_congr {c d v : Int → Int} {o sh : Int} (h : ∀ j : Int, 0 ≤ j → j < o → c j = d j) : rests v c o sh = rests v d o sh := by
  funext i
  unfold rests ft
  rw [fsum_congr o.toNat (fun j h1 h2 => h j h1 (by omega))]
theorem cFix_ok {o : Int} {c : Int → Int} (ho : 0 ≤ o ∧ o ≤ 4) (h : ∀ j, 0 ≤ j → j < 4 → c j = zFixed (o * 4 + j).toNat) : cfOk c := by
  intro j h1 h2
  rw [h j h1 h2]
  have k : ∀ t : Nat, t < 20 → -512 ≤ zFixed t ∧ zFixed t ≤ 511 := by decide
  exact k _ (by omega)
/-- the RESTS and the order of a KIND of 2 to 7; oo, os, oc: the COEFFICIENTS told -/
def kO (oo kind : Int) : Int := if kind = 7 then oo else kind - 2
def kU (v : Int → Int) (oo os : Int) (oc : Int → Int) (kind : Int) : Int → Int := if kind = 7 then rests v oc oo os else rests v (cFix (kind - 2)) (kind - 2) 0
noncomputable def price (v : Int → Int) (n b oo os : Int) (oc : Int → Int) (kind : Int) : Int :=
  if kind = 0 then (if alk v n.toNat = true then 7 + b else -1) else if kind = 1 then 7 + n * b else if kind = 7 ∧ oo = 0 then -1 else rowP (kU v oo os oc kind) n (kO oo kind) b (if kind = 7 then 6 + oo * 10 else 0)
def rowTold (v : Int → Int) (n oo os : Int) (oc : Int → Int) (kind p : Int) (K X : Int → Int) : Prop :=
  (kind < 2 → p = -1) ∧ (2 ≤ kind → p = rowPp (kU v oo os oc kind) n (kO oo kind) ∧ (0 ≤ p ∧ p ≤ 4) ∧ kx (kU v oo os oc kind) n (kO oo kind) p K X)
