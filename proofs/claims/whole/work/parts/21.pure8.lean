/-! ===== prices of a ROW by its KIND ===== -/
def finF (n o : Int) : Int := if n % 2 = 0 ∧ o ≤ n / 2 then (if n % 4 = 0 ∧ o ≤ n / 4 then (if n % 8 = 0 ∧ o ≤ n / 8 then (if n % 16 = 0 ∧ o ≤ n / 16 then 4 else 3) else 2) else 1) else 0
theorem may_n (n o : Int) : (may n o 1 ↔ n % 2 = 0 ∧ o ≤ n / 2) ∧ (may n o 2 ↔ n % 4 = 0 ∧ o ≤ n / 4) ∧ (may n o 3 ↔ n % 8 = 0 ∧ o ≤ n / 8) ∧ (may n o 4 ↔ n % 16 = 0 ∧ o ≤ n / 16) := ⟨Iff.rfl, Iff.rfl, Iff.rfl, Iff.rfl⟩
theorem isFin_F {n o f : Int} (h : isFin n o f) : f = finF n o := by
  obtain ⟨h0, h4, ha, hb⟩ := h
  obtain ⟨m1, m2, m3, m4⟩ := may_n n o
  unfold finF
  rcases (show f = 0 ∨ f = 1 ∨ f = 2 ∨ f = 3 ∨ f = 4 by omega) with e | e | e | e | e <;> subst e
  · rw [if_neg (fun q => hb (by decide) (m1.mpr q))]
  · rw [if_pos (m1.mp (ha 1 (by decide) (by decide))), if_neg (fun q => hb (by decide) (m2.mpr q))]
  · rw [if_pos (m1.mp (ha 1 (by decide) (by decide))), if_pos (m2.mp (ha 2 (by decide) (by decide))), if_neg (fun q => hb (by decide) (m3.mpr q))]
  · rw [if_pos (m1.mp (ha 1 (by decide) (by decide))), if_pos (m2.mp (ha 2 (by decide) (by decide))), if_pos (m3.mp (ha 3 (by decide) (by decide))), if_neg (fun q => hb (by decide) (m4.mpr q))]
  · rw [if_pos (m1.mp (ha 1 (by decide) (by decide))), if_pos (m2.mp (ha 2 (by decide) (by decide))), if_pos (m3.mp (ha 3 (by decide) (by decide))), if_pos (m4.mp (ha 4 (by decide) (by decide)))]
def pMin (f : Nat → Int) : Nat → Int × Int
  | 0 => (f 0, 0)
  | m + 1 => if f (m + 1) < (pMin f m).1 then (f (m + 1), (m : Int) + 1) else pMin f m
theorem pMin_FM (f : Nat → Int) : ∀ m : Nat, FM f 0 m (pMin f m).1 (pMin f m).2
  | 0 => FM_one (p := 0) rfl
  | m + 1 => by
    obtain ⟨h1, h2, h3, h4, h5⟩ := pMin_FM f m
    show FM f 0 ((m + 1 : Nat) : Int) (if f (m + 1) < (pMin f m).1 then (f (m + 1), (m : Int) + 1) else pMin f m).1 (if f (m + 1) < (pMin f m).1 then (f (m + 1), (m : Int) + 1) else pMin f m).2
    by_cases c : f (m + 1) < (pMin f m).1
    · rw [if_pos c]
      refine ⟨by omega, by omega, by rw [show ((m : Int) + 1).toNat = m + 1 by omega], fun q a b => ?_, fun q a b => ?_⟩
      · show f (m + 1) < f q.toNat
        by_cases d : q < (pMin f m).2
        · have := h4 q a d; omega
        · have := h5 q (by omega) (by omega); omega
      · show f (m + 1) ≤ f q.toNat
        have b' : (m : Int) + 1 ≤ q := a
        rw [show q.toNat = m + 1 by omega]
        exact Int.le_refl _
    · rw [if_neg c]
      refine ⟨h1, by omega, h3, h4, fun q a b => ?_⟩
      by_cases d : q ≤ m
      · exact h5 q a d
      · rw [show q.toNat = m + 1 by omega]; omega
noncomputable def rowP (U : Int → Int) (n o b ex : Int) : Int := @ite _ (o ≤ n ∧ allU U o n) (Classical.propDecidable _) (7 + o * b + ex + (pMin (lvB U n o) (finF n o).toNat).1) (-1)
def rowPp (U : Int → Int) (n o : Int) : Int := (pMin (lvB U n o) (finF n o).toNat).2
theorem rowP_no {U : Int → Int} {n o b ex : Int} (h : ¬ (o ≤ n ∧ allU U o n)) : rowP U n o b ex = -1 := if_neg h
theorem rowP_ok {U : Int → Int} {n o b ex fin r fp : Int} (ho : o ≤ n) (hU : allU U o n) (hf : isFin n o fin) (hm : FM (lvB U n o) 0 fin r fp) : rowP U n o b ex = 7 + o * b + ex + r ∧ rowPp U n o = fp := by
  have e := isFin_F hf
  have h1 := pMin_FM (lvB U n o) (finF n o).toNat
  have h0 := hf.1
  rw [show ((finF n o).toNat : Int) = fin by omega] at h1
  obtain ⟨a, b'⟩ := FM_uni h1 hm
  constructor
  · unfold rowP
    rw [if_pos ⟨ho, hU⟩, a]
  · unfold rowPp
    exact b'
def cFix (o : Int) : Int → Int := fun j => zFixed (o * 4 + j).toNat
theorem fsum_congr {c d v : Int → Int} {i : Int} : ∀ n : Nat, (∀ j : Int, 0 ≤ j → j < n → c j = d j) → fsum c v i n = fsum d v i n
  | 0, _ => rfl
  | n + 1, h => by
    show fsum c v i n + c n * v (i - 1 - n) = fsum d v i n + d n * v (i - 1 - n)
    rw [fsum_congr n (fun j h1 h2 => h j h1 (by omega)), h n (by omega) (by omega)]
theorem rests_congr {c d v : Int → Int} {o sh : Int} (h : ∀ j : Int, 0 ≤ j → j < o → c j = d j) : rests v c o sh = rests v d o sh := by
  funext i
  unfold rests ft
  rw [fsum_congr o.toNat (fun j h1 h2 => h j h1 (by omega))]
theorem cFix_ok {o : Int} {c : Int → Int} (ho : 0 ≤ o ∧ o ≤ 4) (h : ∀ j, 0 ≤ j → j < 4 → c j = zFixed (o * 4 + j).toNat) : cfOk c := by
  intro j h1 h2
  rw [h j h1 h2]
  have k : ∀ t : Nat, t < 20 → -512 ≤ zFixed t ∧ zFixed t ≤ 511 := by decide
  exact k _ (by omega)
/-- the RESTS and the order of a KIND of 2 to 7; oo, os, oc: the COEFFICIENTS told -/
def kO (oo kind : Int) : Int := if kind = 7 then oo else kind - 2
def kU (v : Int → Int) (oo os : Int) (oc : Int → Int) (kind : Int) : Int → Int := if kind = 7 then rests v oc oo os else rests v (cFix (kind - 2)) (kind - 2) 0
noncomputable def price (v : Int → Int) (n b oo os : Int) (oc : Int → Int) (kind : Int) : Int :=
  if kind = 0 then (if alk v n.toNat = true then 7 + b else -1) else if kind = 1 then 7 + n * b else if kind = 7 ∧ oo = 0 then -1 else rowP (kU v oo os oc kind) n (kO oo kind) b (if kind = 7 then 6 + oo * 10 else 0)
def rowTold (v : Int → Int) (n oo os : Int) (oc : Int → Int) (kind p : Int) (K X : Int → Int) : Prop :=
  (kind < 2 → p = -1) ∧ (2 ≤ kind → p = rowPp (kU v oo os oc kind) n (kO oo kind) ∧ (0 ≤ p ∧ p ≤ 4) ∧ kx (kU v oo os oc kind) n (kO oo kind) p K X)
theorem price_1 {v : Int → Int} {n b oo os : Int} {oc : Int → Int} : price v n b oo os oc 1 = 7 + n * b := rfl
theorem price_0t {v : Int → Int} {n b oo os : Int} {oc : Int → Int} (h : alk v n.toNat = true) : price v n b oo os oc 0 = 7 + b := by
  show (if alk v n.toNat = true then 7 + b else -1) = _
  rw [if_pos h]
theorem price_0f {v : Int → Int} {n b oo os : Int} {oc : Int → Int} (h : ¬ alk v n.toNat = true) : price v n b oo os oc 0 = -1 := by
  show (if alk v n.toNat = true then 7 + b else -1) = _
  rw [if_neg h]
theorem told_lt {v : Int → Int} {n oo os kind : Int} {oc K X : Int → Int} (h : kind < 2) : rowTold v n oo os oc kind (-1) K X := ⟨fun _ => rfl, fun q => by omega⟩
theorem price7_0 {v : Int → Int} {n b oo os : Int} {oc : Int → Int} (h : oo = 0) : price v n b oo os oc 7 = -1 := by
  show (if (7 : Int) = 7 ∧ oo = 0 then -1 else rowP (kU v oo os oc 7) n (kO oo 7) b (if (7 : Int) = 7 then 6 + oo * 10 else 0)) = _
  rw [if_pos ⟨rfl, h⟩]
theorem price7_e {v : Int → Int} {n b oo os : Int} {oc : Int → Int} (h : oo ≠ 0) : price v n b oo os oc 7 = rowP (rests v oc oo os) n oo b (6 + oo * 10) := by
  show (if (7 : Int) = 7 ∧ oo = 0 then -1 else rowP (rests v oc oo os) n oo b (6 + oo * 10)) = _
  rw [if_neg (fun q => h q.2)]
theorem price7_no {v : Int → Int} {n b oo os : Int} {oc : Int → Int} (h : oo ≠ 0) (h2 : ¬ (oo ≤ n ∧ allU (rests v oc oo os) oo n)) : price v n b oo os oc 7 = -1 := by
  rw [price7_e h, rowP_no h2]
theorem price7_ok {v : Int → Int} {n b oo os fin rb fp r : Int} {oc K X : Int → Int} (h : oo ≠ 0) (hn : oo ≤ n) (hU : allU (rests v oc oo os) oo n) (hf : isFin n oo fin) (hm : FM (lvB (rests v oc oo os) n oo) 0 fin rb fp ∧ kx (rests v oc oo os) n oo fp K X ∧ 0 ≤ rb ∧ rb ≤ 200000) (hr : r = 7 + oo * b + (6 + oo * 10) + rb ∧ -1 ≤ r ∧ r ≤ 300000) : r = price v n b oo os oc 7 ∧ (r ≠ -1 → rowTold v n oo os oc 7 fp K X) ∧ -1 ≤ r ∧ r ≤ 300000 := by
  have e := rowP_ok (b := b) (ex := 6 + oo * 10) hn hU hf hm.1
  have h4 := hf.2.1
  refine ⟨by rw [price7_e h, e.1]; exact hr.1, fun _ => ⟨fun q => absurd q (by decide), fun _ => ⟨e.2.symm, by have := hm.1.1; have := hm.1.2.1; omega, hm.2.1⟩⟩, hr.2⟩
theorem pricef_e {v : Int → Int} {n b oo os kind : Int} {oc : Int → Int} (hk : 2 ≤ kind ∧ kind ≤ 6) : price v n b oo os oc kind = rowP (rests v (cFix (kind - 2)) (kind - 2) 0) n (kind - 2) b 0 := by
  unfold price kU kO
  rw [if_neg (by omega), if_neg (by omega), if_neg (by omega), if_neg (by omega), if_neg (by omega), if_neg (by omega)]
theorem pricef_no {v : Int → Int} {n b oo os kind : Int} {oc : Int → Int} (hk : 2 ≤ kind ∧ kind ≤ 6) (h2 : ¬ (kind - 2 ≤ n ∧ allU (rests v (cFix (kind - 2)) (kind - 2) 0) (kind - 2) n)) : price v n b oo os oc kind = -1 := by
  rw [pricef_e hk, rowP_no h2]
theorem pricef_ok {v : Int → Int} {n b oo os kind fin rb fp r : Int} {oc K X : Int → Int} (hk : 2 ≤ kind ∧ kind ≤ 6) (hn : kind - 2 ≤ n) (hU : allU (rests v (cFix (kind - 2)) (kind - 2) 0) (kind - 2) n) (hf : isFin n (kind - 2) fin) (hm : FM (lvB (rests v (cFix (kind - 2)) (kind - 2) 0) n (kind - 2)) 0 fin rb fp ∧ kx (rests v (cFix (kind - 2)) (kind - 2) 0) n (kind - 2) fp K X ∧ 0 ≤ rb ∧ rb ≤ 200000) (hr : r = 7 + (kind - 2) * b + rb ∧ -1 ≤ r ∧ r ≤ 300000) : r = price v n b oo os oc kind ∧ (r ≠ -1 → rowTold v n oo os oc kind fp K X) ∧ -1 ≤ r ∧ r ≤ 300000 := by
  have e := rowP_ok (b := b) (ex := 0) hn hU hf hm.1
  have h4 := hf.2.1
  have eU : kU v oo os oc kind = rests v (cFix (kind - 2)) (kind - 2) 0 := if_neg (by omega)
  have eO : kO oo kind = kind - 2 := if_neg (by omega)
  refine ⟨by rw [pricef_e hk, e.1, hr.1]; omega, fun _ => ⟨fun q => by omega, fun _ => ?_⟩, hr.2⟩
  rw [eU, eO]
  exact ⟨e.2.symm, by have := hm.1.1; have := hm.1.2.1; omega, hm.2.1⟩
/-- the cheapest KIND up to m that may be (-1: it may not), the first of like ones -/
def bK (pr : Nat → Int) : Nat → Int × Int
  | 0 => (pr 0, 0)
  | m + 1 => if pr (m + 1) ≠ -1 ∧ ((bK pr m).1 = -1 ∨ pr (m + 1) < (bK pr m).1) then (pr (m + 1), (m : Int) + 1) else bK pr m
theorem bK_new {pr : Nat → Int} {i : Int} (hi : 0 ≤ i) (h1 : pr i.toNat ≠ -1) (h2 : i = 0 ∨ (bK pr (i - 1).toNat).1 = -1 ∨ pr i.toNat < (bK pr (i - 1).toNat).1) : bK pr i.toNat = (pr i.toNat, i) := by
  by_cases c : i = 0
  · rw [c]; rfl
  · have h3 := h2.resolve_left c
    rw [show i.toNat = (i - 1).toNat + 1 by omega] at h1 h3 ⊢
    show (if pr ((i - 1).toNat + 1) ≠ -1 ∧ ((bK pr (i - 1).toNat).1 = -1 ∨ pr ((i - 1).toNat + 1) < (bK pr (i - 1).toNat).1) then (pr ((i - 1).toNat + 1), ((i - 1).toNat : Int) + 1) else bK pr (i - 1).toNat) = _
    rw [if_pos ⟨h1, h3⟩, show ((i - 1).toNat : Int) + 1 = i by omega]
theorem bK_old {pr : Nat → Int} {i : Int} (hi : 0 < i) (h : pr i.toNat = -1 ∨ (¬ (bK pr (i - 1).toNat).1 = -1 ∧ ¬ pr i.toNat < (bK pr (i - 1).toNat).1)) : bK pr i.toNat = bK pr (i - 1).toNat := by
  rw [show i.toNat = (i - 1).toNat + 1 by omega] at h ⊢
  show (if pr ((i - 1).toNat + 1) ≠ -1 ∧ ((bK pr (i - 1).toNat).1 = -1 ∨ pr ((i - 1).toNat + 1) < (bK pr (i - 1).toNat).1) then (pr ((i - 1).toNat + 1), ((i - 1).toNat : Int) + 1) else bK pr (i - 1).toNat) = _
  rw [if_neg (fun q => by rcases h with h | h; { exact q.1 h }; { rcases q.2 with a | a; { exact h.1 a }; { exact h.2 a } })]
theorem bK_ne (pr : Nat → Int) (h : pr 1 ≠ -1) : ∀ m : Nat, (bK pr (m + 1)).1 ≠ -1
  | 0 => by
    show (if pr 1 ≠ -1 ∧ (pr 0 = -1 ∨ pr 1 < pr 0) then (pr 1, ((0 : Nat) : Int) + 1) else (pr 0, 0)).1 ≠ -1
    by_cases c : pr 0 = -1
    · rw [if_pos ⟨h, Or.inl c⟩]; exact h
    · split
      · exact h
      · exact c
  | m + 1 => by
    have ih := bK_ne pr h m
    show (if pr (m + 2) ≠ -1 ∧ ((bK pr (m + 1)).1 = -1 ∨ pr (m + 2) < (bK pr (m + 1)).1) then (pr (m + 2), ((m + 1 : Nat) : Int) + 1) else bK pr (m + 1)).1 ≠ -1
    split
    · rename_i q; exact q.1
    · exact ih
noncomputable def prF (v : Int → Int) (n b oo os : Int) (oc : Int → Int) : Nat → Int := fun q => price v n b oo os oc q
def rowIs (v : Int → Int) (n b oo os : Int) (oc : Int → Int) (kd bits p : Int) (K X : Int → Int) : Prop :=
  bits = (bK (prF v n b oo os oc) 7).1 ∧ kd = (bK (prF v n b oo os oc) 7).2 ∧ bits ≠ -1 ∧ bits ≤ 300000 ∧ (0 ≤ kd ∧ kd ≤ 7) ∧ rowTold v n oo os oc kd p K X
theorem vOk_strip {f v : Int → Int} {n w : Int} (hf : ∀ j, 0 ≤ j → j < n → -65536 ≤ f j ∧ f j < 65536) (hw : 0 ≤ w) (hv : ∀ j, 0 ≤ j → j < n → v j = f j / 2 ^ w.toNat) : vOk v n := by
  intro j h1 h2
  have h3 := hf j h1 h2
  have h4 := ediv_in (a := f j) w.toNat (M := 65536) (by decide) h3.1 h3.2
  rw [hv j h1 h2]
  omega
theorem told_copy {v : Int → Int} {n oo os kind p : Int} {oc K X K2 X2 : Int → Int} (h : rowTold v n oo os oc kind p K X) (h1 : ∀ j, 0 ≤ j → j < 16 → K2 j = K j) (h2 : ∀ j, 0 ≤ j → j < 16 → X2 j = X j) : rowTold v n oo os oc kind p K2 X2 := by
  refine ⟨h.1, fun q => ?_⟩
  obtain ⟨a, b, c⟩ := h.2 q
  refine ⟨a, b, fun j c1 c2 => ?_⟩
  have h16 : (2 : Int) ^ p.toNat ≤ 2 ^ 4 := zpow_le (by omega)
  rw [show (2 : Int) ^ 4 = 16 by decide] at h16
  rw [h1 j c1 (by omega), h2 j c1 (by omega)]
  exact c j c1 c2
