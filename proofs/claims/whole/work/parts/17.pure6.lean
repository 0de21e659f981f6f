/-! ===== RESTS gathered by parts ===== -/
def rests (v c : Int → Int) (o sh : Int) : Int → Int := fun i => fld (v i - ft c v o sh i)
theorem fld_nn (e : Int) : 0 ≤ fld e := by unfold fld; split <;> omega
theorem fld_in {e : Int} (h : -200000000 ≤ e ∧ e ≤ 200000000) : 0 ≤ fld e ∧ fld e ≤ 400000000 := by unfold fld; split <;> omega
def usum (U : Int → Int) (t : Nat) (a : Int) : Nat → Int
  | 0 => 0
  | m + 1 => usum U t a m + U (a + m) / 2 ^ t
def uor (U : Int → Int) (a : Int) : Nat → Int
  | 0 => 0
  | m + 1 => zOr (uor U a m) (U (a + m))
def may (n o q : Int) : Prop := n % 2 ^ q.toNat = 0 ∧ o ≤ n / 2 ^ q.toNat
def isFin (n o f : Int) : Prop := 0 ≤ f ∧ f ≤ 4 ∧ (∀ q, 1 ≤ q → q ≤ f → may n o q) ∧ (f < 4 → ¬ may n o (f + 1))
/-- where part j begins, how many RESTS it has -/
def pst (o each j : Int) : Int := if j = 0 then o else j * each
def pln (o each j : Int) : Int := if j = 0 then each - o else each
/-- how many of them stand ahead of i -/
def pcl (o each j i : Int) : Nat := ((if i < (j + 1) * each then i else (j + 1) * each) - pst o each j).toNat
theorem mul_le_r {a b c : Int} (h : a ≤ b) (hc : 0 ≤ c) : a * c ≤ b * c := Int.mul_le_mul_of_nonneg_right h hc
theorem pcl_init {o each j : Int} (ho : 0 ≤ o ∧ o ≤ each) (hj : 0 ≤ j) : pcl o each j o = 0 := by
  unfold pcl pst
  by_cases c : j = 0
  · rw [if_pos c]; split <;> omega
  · rw [if_neg c]
    have h1 := mul_le_r (show 1 ≤ j by omega) (show 0 ≤ each by omega)
    rw [Int.one_mul] at h1
    split <;> omega
theorem pcl_eq {o each p i : Int} (ho : 0 ≤ o ∧ o ≤ each) (hp : 0 ≤ p) (hi : o ≤ i) (h1 : p * each ≤ i) (h2 : i < (p + 1) * each) : pcl o each p (i + 1) = pcl o each p i + 1 ∧ pst o each p + (pcl o each p i : Int) = i := by
  have hs : pst o each p ≤ i := by unfold pst; split <;> omega
  unfold pcl
  rw [if_pos h2]
  constructor
  · split <;> omega
  · omega
theorem pcl_ne {o each p i j : Int} (ho : 0 ≤ o ∧ o ≤ each) (hp : 0 ≤ p) (hj : 0 ≤ j) (hi : o ≤ i) (h1 : p * each ≤ i) (h2 : i < (p + 1) * each) (hn : j ≠ p) : pcl o each j (i + 1) = pcl o each j i := by
  by_cases c : j < p
  · have h3 := mul_le_r (show j + 1 ≤ p by omega) (show 0 ≤ each by omega)
    unfold pcl
    rw [if_neg (by omega), if_neg (by omega)]
  · have h3 := mul_le_r (show p + 1 ≤ j by omega) (show 0 ≤ each by omega)
    have hs : i + 1 ≤ pst o each j := by unfold pst; rw [if_neg (by omega)]; omega
    unfold pcl
    split <;> split <;> omega
theorem pcl_end {o each j : Int} {n : Int} (ho : 0 ≤ o ∧ o ≤ each) (hj : 0 ≤ j) (h : (j + 1) * each ≤ n) : pcl o each j n = (pln o each j).toNat := by
  unfold pcl pst pln
  rw [if_neg (by omega), Int.add_mul, Int.one_mul]
  by_cases c : j = 0
  · rw [if_pos c, if_pos c, c, Int.zero_mul]; congr 1; omega
  · rw [if_neg c, if_neg c]; congr 1; omega
def allU (U : Int → Int) (o n : Int) : Prop := ∀ i, o ≤ i → i < n → U i < 16777216
/-- the 1s and the union of each part, of the RESTS ahead of i -/
def gatI (U : Int → Int) (o each cnt i : Int) (On Un : Int → Int) : Prop := ∀ j, 0 ≤ j → j < cnt → Un j = uor U (pst o each j) (pcl o each j i) ∧ ∀ t : Nat, t < 15 → On (j * 15 + t) = usum U t (pst o each j) (pcl o each j i)
def gat (U : Int → Int) (n o f : Int) (On Un : Int → Int) : Prop := ∀ j, 0 ≤ j → j < 2 ^ f.toNat → Un j = uor U (pst o (n / 2 ^ f.toNat) j) (pln o (n / 2 ^ f.toNat) j).toNat ∧ ∀ t : Nat, t < 15 → On (j * 15 + t) = usum U t (pst o (n / 2 ^ f.toNat) j) (pln o (n / 2 ^ f.toNat) j).toNat
theorem gat_init {U : Int → Int} {o each cnt : Int} {On Un : Int → Int} (ho : 0 ≤ o ∧ o ≤ each) (hc : cnt ≤ 16) (h1 : ∀ q, 0 ≤ q → q < 240 → On q = 0) (h2 : ∀ q, 0 ≤ q → q < 16 → Un q = 0) : gatI U o each cnt o On Un := by
  intro j hj hj2
  rw [pcl_init ho hj]
  exact ⟨h2 j hj (by omega), fun t ht => h1 _ (by omega) (by omega)⟩
theorem gat_step {U : Int → Int} {o each cnt i p : Int} {On Un On2 : Int → Int} (ho : 0 ≤ o ∧ o ≤ each) (hp : 0 ≤ p) (hi : o ≤ i) (h1 : p * each ≤ i) (h2 : i < (p + 1) * each) (h : gatI U o each cnt i On Un)
    (hO : (∀ t, 0 ≤ t → t < 15 → On2 (p * 15 + t) = On (p * 15 + t) + U i / 2 ^ t.toNat) ∧ (∀ q, (q < p * 15 ∨ p * 15 + 15 ≤ q) → On2 q = On q)) : gatI U o each cnt (i + 1) On2 (zup Un p (zOr (Un p) (U i))) := by
  intro j hj hj2
  obtain ⟨a1, a2⟩ := h j hj hj2
  by_cases c : j = p
  · subst c
    obtain ⟨b1, b2⟩ := pcl_eq ho hp hi h1 h2
    rw [b1, zup_s]
    refine ⟨?_, fun t ht => ?_⟩
    · show _ = zOr (uor U (pst o each j) (pcl o each j i)) (U (pst o each j + (pcl o each j i : Int)))
      rw [b2, a1]
    · show _ = usum U t (pst o each j) (pcl o each j i) + U (pst o each j + (pcl o each j i : Int)) / 2 ^ t
      rw [b2, hO.1 t (by omega) (by omega), a2 t ht, Int.toNat_natCast]
  · rw [pcl_ne ho hp hj hi h1 h2 c, zup_n c]
    refine ⟨a1, fun t ht => ?_⟩
    rw [hO.2 _ (by omega), a2 t ht]
theorem gat_of {U : Int → Int} {n o f : Int} {On Un : Int → Int} (ho : 0 ≤ o ∧ o ≤ n / 2 ^ f.toNat) (hn : n = 2 ^ f.toNat * (n / 2 ^ f.toNat)) (h : gatI U o (n / 2 ^ f.toNat) (2 ^ f.toNat) n On Un) : gat U n o f On Un := by
  intro j hj hj2
  have h3 := mul_le_r (show j + 1 ≤ 2 ^ f.toNat by omega) (show 0 ≤ n / 2 ^ f.toNat by omega)
  obtain ⟨a1, a2⟩ := h j hj hj2
  rw [pcl_end ho hj (by omega)] at a1 a2
  exact ⟨a1, a2⟩
theorem fin_facts {n o f : Int} (hn : 1 ≤ n) (ho : 0 ≤ o ∧ o ≤ n) (h : isFin n o f) {p : Int} (hp : 0 ≤ p ∧ p ≤ f) : (o ≤ n / 2 ^ p.toNat ∧ n = 2 ^ p.toNat * (n / 2 ^ p.toNat) ∧ 1 ≤ n / 2 ^ p.toNat ∧ n / 2 ^ p.toNat ≤ n) ∧ (1 ≤ (2 : Int) ^ p.toNat ∧ (2 : Int) ^ p.toNat ≤ 16) := by
  have hq := pw_pos p
  have h16 : (2 : Int) ^ p.toNat ≤ 2 ^ 4 := zpow_le (by have := h.2.1; omega)
  rw [show (2 : Int) ^ 4 = 16 by decide] at h16
  have key : n % 2 ^ p.toNat = 0 ∧ o ≤ n / 2 ^ p.toNat := by
    by_cases c : p = 0
    · rw [c, show (0 : Int).toNat = 0 from rfl, Int.pow_zero, Int.emod_one, Int.ediv_one]
      exact ⟨rfl, ho.2⟩
    · exact h.2.2.1 p (by omega) hp.2
  have e := Int.mul_ediv_add_emod n (2 ^ p.toNat)
  rw [key.1, Int.add_zero] at e
  have h1 : 1 ≤ n / 2 ^ p.toNat := by
    by_cases c : 1 ≤ n / 2 ^ p.toNat
    · exact c
    · have h2 := Int.mul_le_mul_of_nonneg_left (show n / 2 ^ p.toNat ≤ 0 by omega) (Int.le_of_lt hq)
      rw [Int.mul_zero] at h2
      omega
  have h3 := Int.ediv_le_self (2 ^ p.toNat) (show 0 ≤ n by omega)
  exact ⟨⟨key.2, e.symm, h1, h3⟩, by omega, h16⟩
theorem part_lt {p each i c n : Int} (h1 : p * each ≤ i) (h2 : i < n) (h3 : n = c * each) (he : 0 ≤ each) : p < c := by
  by_cases q : p < c
  · exact q
  · have := mul_le_r (show c ≤ p by omega) he
    omega
