theorem mod_next {al w : Int} (hw : 0 ≤ w) (h : al % 2 ^ w.toNat = 0) (h2 : al / 2 ^ w.toNat % 2 = 0) : al % 2 ^ (w + 1).toNat = 0 := by
  have e := Int.mul_ediv_add_emod al (2 ^ w.toNat)
  rw [h, Int.add_zero] at e
  rw [show (w + 1).toNat = w.toNat + 1 by omega, Int.pow_succ, ← e]
  refine Int.emod_eq_zero_of_dvd (Int.mul_dvd_mul (Int.dvd_refl _) (Int.dvd_of_emod_eq_zero h2))
theorem isW_out {al b w : Int} (h0 : 0 ≤ w ∧ w ≤ 15 ∧ w ≤ b - 1) (hm : al % 2 ^ w.toNat = 0) (hz : al = 0 → w = 0) (he : al = 0 ∨ w = b - 1 ∨ w = 15 ∨ al / 2 ^ w.toNat % 2 = 1) : isW al b w := by
  refine ⟨hz, fun q => ⟨h0.1, h0.2.2, h0.2.1, hm, ?_⟩⟩
  rcases he with e | e
  · exact absurd e q
  · exact e
theorem pb_next {U : Int → Int} {a i k bt : Int} (h : a ≤ i) (hb : bt = 4 + usum U k.toNat a (i - a).toNat + (i - a) * (1 + k)) : bt + (U i / 2 ^ k.toNat + 1 + k) = 4 + usum U k.toNat a (i + 1 - a).toNat + (i + 1 - a) * (1 + k) := by
  rw [usum_next h, hb, show i + 1 - a = (i - a) + 1 by omega, Int.add_mul, Int.one_mul]
  omega
theorem price_no {v oc : Int → Int} {n b oo os kind : Int} (hk : 2 ≤ kind ∧ kind ≤ 7) (h : ¬ (kO oo kind ≤ n ∧ allU (kU v oo os oc kind) (kO oo kind) n) ∨ (kind = 7 ∧ oo = 0)) : price v n b oo os oc kind = -1 := by
  unfold price
  rw [if_neg (by omega), if_neg (by omega)]
  by_cases c : kind = 7 ∧ oo = 0
  · rw [if_pos c]
  · rw [if_neg c]
    exact rowP_no (h.resolve_right c)
theorem price_yes {v oc : Int → Int} {n b oo os kind : Int} (hk : 2 ≤ kind ∧ kind ≤ 7) (h7 : ¬ (kind = 7 ∧ oo = 0)) (h : kO oo kind ≤ n ∧ allU (kU v oo os oc kind) (kO oo kind) n) : price v n b oo os oc kind = 7 + kO oo kind * b + (if kind = 7 then 6 + oo * 10 else 0) + (pMin (lvB (kU v oo os oc kind) n (kO oo kind)) (finF n (kO oo kind)).toNat).1 := by
  unfold price
  rw [if_neg (by omega), if_neg (by omega), if_neg h7]
  unfold rowP
  exact if_pos h
def upOk (v : Int → Int) (oo os : Int) (oc : Int → Int) (kind n : Int) (rs U : Int → Int) : Prop := ∀ i, kO oo kind ≤ i → i < n → U i = kU v oo os oc kind i ∧ rs i = v i - kF v oo os oc kind i
/-- what bitsOf says -/
def isPr (q r : Int) : Prop := (q = -1 ∧ r = 1000000000) ∨ (¬ q = -1 ∧ r = q)
theorem kO_5 {oo kind : Int} (hoo : 0 ≤ oo ∧ oo ≤ 4) (hk : 2 ≤ kind ∧ kind ≤ 7) : 0 ≤ kO oo kind ∧ kO oo kind ≤ 4 := by
  unfold kO
  by_cases c : kind = 7
  · rw [if_pos c]; exact hoo
  · rw [if_neg c]; omega
theorem isPr_in {v oc : Int → Int} {n b oo os kind r : Int} (hn : 1 ≤ n ∧ n ≤ 400) (hb : 0 ≤ b ∧ b ≤ 17) (hoo : 0 ≤ oo ∧ oo ≤ 4) (hk : 0 ≤ kind ∧ kind ≤ 7) (h : isPr (price v n b oo os oc kind) r) : 7 ≤ r ∧ (r ≤ 300000 ∨ r = 1000000000) := by
  rcases h with ⟨_, e⟩ | ⟨c, e⟩
  · omega
  · have := price_in hn hb hoo hk c; omega
def mayI (T : Int → Int) (o i mf : Int) : Prop := (mf = 1 ∧ ∀ q, o ≤ q → q < i → T q < 16777216) ∨ (mf = 0 ∧ ∃ q, o ≤ q ∧ q < i ∧ ¬ T q < 16777216)
theorem isPr_lt {v oc : Int → Int} {n b oo os kind r : Int} (hn : 1 ≤ n ∧ n ≤ 400) (hb : 0 ≤ b ∧ b ≤ 17) (hoo : 0 ≤ oo ∧ oo ≤ 4) (hk : 0 ≤ kind ∧ kind ≤ 7) (h : isPr (price v n b oo os oc kind) r) (c : ¬ price v n b oo os oc kind = -1) : r < 1000000000 := by
  rcases h with ⟨e, _⟩ | ⟨_, e⟩
  · exact absurd e c
  · have := price_in hn hb hoo hk c; omega
