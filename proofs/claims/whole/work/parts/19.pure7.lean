/-! ===== the cheapest parts ===== -/
def bl (u : Int) : Int := if u ≤ 0 then 0 else (Nat.log2 u.toNat : Int) + 1
theorem bl_is {u : Int} (h : 0 ≤ u) : isBl u (bl u) := by
  unfold bl
  by_cases c : u ≤ 0
  · rw [if_pos c, show u = 0 by omega]
    exact bl_0 rfl
  · rw [if_neg c]
    have hn : u.toNat ≠ 0 := by omega
    have h1 : 2 ^ Nat.log2 u.toNat ≤ u.toNat := Nat.log2_self_le hn
    have h2 : u.toNat < 2 ^ (Nat.log2 u.toNat + 1) := Nat.lt_log2_self
    generalize Nat.log2 u.toNat = k at h1 h2 ⊢
    rw [Nat.pow_succ] at h2
    have e : ((2 ^ k : Nat) : Int) = (2 : Int) ^ k := Int.natCast_pow 2 k
    exact bl_case k (2 ^ k) rfl rfl (by omega) (by omega)
theorem zOr_nat {a b : Nat} (ha : a < 16777216) (hb : b < 16777216) : zOr (a : Int) (b : Int) = ((a ||| b : Nat) : Int) := by
  unfold zOr
  have h : a ||| b < 16777216 := Nat.or_lt_two_pow (n := 24) ha hb
  have e : iI (a : Int) ||| iI (b : Int) = iI ((a ||| b : Nat) : Int) := by
    apply Int32.toBitVec_inj.mp
    rw [Int32.toBitVec_or, iI_toBv, iI_toBv, iI_toBv]
    apply BitVec.eq_of_toNat_eq
    rw [BitVec.toNat_or]
    simp only [BitVec.ofInt_natCast, BitVec.toNat_ofNat]
    rw [Nat.mod_eq_of_lt (by omega), Nat.mod_eq_of_lt (by omega), Nat.mod_eq_of_lt (by omega)]
  rw [e, iI_toInt (by omega)]
theorem zOr_24 {a b : Int} (ha : 0 ≤ a ∧ a < 16777216) (hb : 0 ≤ b ∧ b < 16777216) : 0 ≤ zOr a b ∧ zOr a b < 16777216 := by
  obtain ⟨n, rfl⟩ := Int.eq_ofNat_of_zero_le ha.1
  obtain ⟨m, rfl⟩ := Int.eq_ofNat_of_zero_le hb.1
  have h : n ||| m < 16777216 := Nat.or_lt_two_pow (n := 24) (by omega) (by omega)
  rw [zOr_nat (by omega) (by omega)]
  omega
theorem zOr_assoc (a b c : Int) : zOr (zOr a b) c = zOr a (zOr b c) := by
  unfold zOr
  rw [iI_of, iI_of, Int32.or_assoc]
theorem zOr_0 {a : Int} (h : inR a) : zOr a 0 = a := by
  unfold zOr
  rw [iI_0, Int32.or_zero, iI_toInt h]
def uIn (U : Int → Int) (a b : Int) : Prop := ∀ i, a ≤ i → i < b → 0 ≤ U i ∧ U i < 16777216
theorem uor_in {U : Int → Int} {a : Int} : ∀ m : Nat, uIn U a (a + m) → 0 ≤ uor U a m ∧ uor U a m < 16777216
  | 0, _ => ⟨Int.le_refl _, show (0 : Int) < 16777216 by decide⟩
  | m + 1, h => zOr_24 (uor_in m (fun i h1 h2 => h i h1 (by omega))) (h (a + m) (by omega) (by omega))
theorem usum_in {U : Int → Int} {a : Int} (t : Nat) : ∀ m : Nat, uIn U a (a + m) → 0 ≤ usum U t a m ∧ usum U t a m ≤ (m : Int) * 16777216
  | 0, _ => ⟨Int.le_refl _, show (0 : Int) ≤ ((0 : Nat) : Int) * 16777216 by decide⟩
  | m + 1, h => by
    have h1 := usum_in t m (fun i h1 h2 => h i h1 (by omega))
    have h2 := h (a + m) (by omega) (by omega)
    have h3 := ediv_in (a := U (a + m)) t (M := 16777216) (by decide) (by omega) h2.2
    have h4 : 0 ≤ U (a + m) / 2 ^ t := Int.ediv_nonneg h2.1 (Int.le_of_lt (zpow_pos t))
    show 0 ≤ usum U t a m + U (a + m) / 2 ^ t ∧ usum U t a m + U (a + m) / 2 ^ t ≤ _
    omega
theorem uor_split {U : Int → Int} {a : Int} (m : Nat) : ∀ k : Nat, uIn U a (a + m + k) → uor U a (m + k) = zOr (uor U a m) (uor U (a + m) k)
  | 0, h => by
    have := uor_in (U := U) (a := a) m (fun i h1 h2 => h i h1 (by omega))
    show uor U a m = zOr (uor U a m) 0
    rw [zOr_0 (by omega)]
  | k + 1, h => by
    show zOr (uor U a (m + k)) (U (a + ((m + k : Nat) : Int))) = zOr (uor U a m) (zOr (uor U (a + m) k) (U (a + m + k)))
    rw [uor_split m k (fun i h1 h2 => h i h1 (by omega)), zOr_assoc, show a + ((m + k : Nat) : Int) = a + m + k by omega]
theorem usum_split {U : Int → Int} {a : Int} (t m : Nat) : ∀ k : Nat, usum U t a (m + k) = usum U t a m + usum U t (a + m) k
  | 0 => by
    show usum U t a m = usum U t a m + 0
    rw [Int.add_zero]
  | k + 1 => by
    show usum U t a (m + k) + U (a + ((m + k : Nat) : Int)) / 2 ^ t = usum U t a m + (usum U t (a + m) k + U (a + m + k) / 2 ^ t)
    rw [usum_split t m k, show a + ((m + k : Nat) : Int) = a + m + k by omega, Int.add_assoc]
theorem pend (o each j : Int) : pst o each j + pln o each j = (j + 1) * each := by
  unfold pst pln
  by_cases c : j = 0
  · rw [if_pos c, if_pos c, c]; omega
  · rw [if_neg c, if_neg c, Int.add_mul, Int.one_mul]
theorem prange {n o each c j : Int} (ho : 0 ≤ o ∧ o ≤ each) (hn : n = c * each) (hj : 0 ≤ j ∧ j < c) : o ≤ pst o each j ∧ pst o each j + pln o each j ≤ n ∧ 0 ≤ pln o each j ∧ pln o each j ≤ each := by
  have h1 := mul_le_r (show j + 1 ≤ c by omega) (show 0 ≤ each by omega)
  have h2 := pend o each j
  refine ⟨?_, by omega, ?_, ?_⟩
  · unfold pst
    split
    · omega
    · have h3 := mul_le_r (show 1 ≤ j by omega) (show 0 ≤ each by omega)
      omega
  · unfold pln; split <;> omega
  · unfold pln; split <;> omega
/-- part j of the RESTS in parts of 'each': price, k, x -/
def pS (U : Int → Int) (o each j : Int) : Int × Int × Int := partSel (fun t => usum U t (pst o each j) (pln o each j).toNat) (pln o each j) (bl (uor U (pst o each j) (pln o each j).toNat))
def psum (U : Int → Int) (o each : Int) : Nat → Int
  | 0 => 0
  | j + 1 => psum U o each j + (pS U o each j).1
def lvB (U : Int → Int) (n o : Int) (p : Nat) : Int := 3 + psum U o (n / 2 ^ p) (2 ^ p)
theorem psum_next {U : Int → Int} {o each j b r : Int} (hj : 0 ≤ j) (h : b = 3 + psum U o each j.toNat) (hr : r = (pS U o each j).1) : b + r = 3 + psum U o each (j + 1).toNat := by
  rw [show (j + 1).toNat = j.toNat + 1 by omega]
  show b + r = 3 + (psum U o each j.toNat + (pS U o each (j.toNat : Int)).1)
  rw [show (j.toNat : Int) = j by omega, h, hr, Int.add_assoc]
theorem kBest_congr {S T : Nat → Int} {cnt : Int} : ∀ m : Nat, (∀ t, t ≤ m → S t = T t) → kBest S cnt m = kBest T cnt m
  | 0, h => by
    show (kb S cnt 0, (0 : Int)) = (kb T cnt 0, 0)
    unfold kb
    rw [h 0 (Nat.le_refl _)]
  | m + 1, h => by
    have e : kb S cnt (m + 1) = kb T cnt (m + 1) := by unfold kb; rw [h (m + 1) (Nat.le_refl _)]
    show (if kb S cnt (m + 1) < (kBest S cnt m).1 then (kb S cnt (m + 1), (m : Int) + 1) else kBest S cnt m) = (if kb T cnt (m + 1) < (kBest T cnt m).1 then (kb T cnt (m + 1), (m : Int) + 1) else kBest T cnt m)
    rw [e, kBest_congr m (fun t ht => h t (by omega))]
theorem partSel_congr {S T : Nat → Int} {cnt x : Int} (h : ∀ t, t < 15 → S t = T t) : partSel S cnt x = partSel T cnt x := by
  unfold partSel
  rw [kBest_congr 14 (fun t ht => h t (by omega))]
theorem partSel_in {S : Nat → Int} {cnt x : Int} (hc : 0 ≤ cnt ∧ cnt ≤ 400) (hx : 0 ≤ x ∧ x ≤ 24) (hS : ∀ t : Nat, t < 15 → 0 ≤ S t ∧ S t ≤ 17179869184) : 0 ≤ (partSel S cnt x).1 ∧ (partSel S cnt x).1 ≤ 9609 := by
  have h1 := (kBest_in hc hS 14 (by decide)).1
  have h2 := mul_in (A := 400) (C := 24) (a := cnt) (b := x) (by omega) (by omega) (by decide)
  have h3 := Int.mul_nonneg hc.1 hx.1
  unfold partSel
  split
  · show 0 ≤ 9 + cnt * x ∧ 9 + cnt * x ≤ 9609; omega
  · show 0 ≤ (kBest S cnt 14).1 ∧ (kBest S cnt 14).1 ≤ 9609; omega
/-- which of lo .. hi has the least of f, the first -/
def FM (f : Nat → Int) (lo hi best bp : Int) : Prop := lo ≤ bp ∧ bp ≤ hi ∧ best = f bp.toNat ∧ (∀ q, lo ≤ q → q < bp → best < f q.toNat) ∧ (∀ q, bp ≤ q → q ≤ hi → best ≤ f q.toNat)
theorem FM_one {f : Nat → Int} {p b : Int} (h : b = f p.toNat) : FM f p p b p := ⟨Int.le_refl _, Int.le_refl _, h, fun q h1 h2 => by omega, fun q h1 h2 => by rw [show q = p by omega, h]; exact Int.le_refl _⟩
theorem FM_new {f : Nat → Int} {p hi best bp b : Int} (h : FM f (p + 1) hi best bp) (e : b = f p.toNat) (hb : b ≤ best) : FM f p hi b p := by
  obtain ⟨h1, h2, h3, h4, h5⟩ := h
  refine ⟨Int.le_refl _, by omega, e, fun q a c => by omega, fun q a c => ?_⟩
  by_cases d : q = p
  · rw [d, e]; exact Int.le_refl _
  · by_cases g : q < bp
    · have := h4 q (by omega) g; omega
    · have := h5 q (by omega) c; omega
theorem FM_old {f : Nat → Int} {p hi best bp b : Int} (h : FM f (p + 1) hi best bp) (e : b = f p.toNat) (hb : best < b) : FM f p hi best bp := by
  obtain ⟨h1, h2, h3, h4, h5⟩ := h
  refine ⟨by omega, h2, h3, fun q a c => ?_, h5⟩
  by_cases d : q = p
  · rw [d, ← e]; exact hb
  · exact h4 q (by omega) c
theorem FM_uni {f : Nat → Int} {lo hi b1 p1 b2 p2 : Int} (h : FM f lo hi b1 p1) (k : FM f lo hi b2 p2) : b1 = b2 ∧ p1 = p2 := by
  obtain ⟨h1, h2, h3, h4, h5⟩ := h
  obtain ⟨k1, k2, k3, k4, k5⟩ := k
  have e : p1 = p2 := by
    by_cases a : p1 < p2
    · have := k4 p1 h1 a; have := h5 p2 (by omega) k2; omega
    · by_cases c : p2 < p1
      · have := h4 p2 k1 c; have := k5 p1 (by omega) h2; omega
      · omega
  subst e
  exact ⟨by omega, rfl⟩
def kx (U : Int → Int) (n o p : Int) (K X : Int → Int) : Prop := ∀ j, 0 ≤ j → j < 2 ^ p.toNat → K j = (pS U o (n / 2 ^ p.toNat) j).2.1 ∧ X j = (pS U o (n / 2 ^ p.toNat) j).2.2
theorem gat_join {U : Int → Int} {n o p : Int} {On Un On2 Un2 : Int → Int} (hU : uIn U o n) (hp : 1 ≤ p ∧ p ≤ 4) (ho : 0 ≤ o ∧ o ≤ n / 2 ^ p.toNat) (hn : n = 2 ^ p.toNat * (n / 2 ^ p.toNat)) (h : gat U n o p On Un) (h1 : ∀ q, 0 ≤ q → q < 2 ^ p.toNat / 2 * 15 → On2 q = jpO On q) (h2 : ∀ j, 0 ≤ j → j < 2 ^ p.toNat / 2 → Un2 j = jpU Un j) : gat U n o (p - 1) On2 Un2 := by
  have e : (2 : Int) ^ p.toNat = 2 * 2 ^ (p - 1).toNat := pw_succ hp.1
  have hq := pw_pos (p - 1)
  have he : n / 2 ^ (p - 1).toNat = 2 * (n / 2 ^ p.toNat) := by
    have : n = (2 * (n / 2 ^ p.toNat)) * 2 ^ (p - 1).toNat := by
      rw [Int.mul_comm 2, Int.mul_assoc, ← e, Int.mul_comm]; exact hn
    rw [this, Int.mul_ediv_cancel _ (by omega), ← this]
  unfold gat at h
  intro j hj hj2
  rw [he]
  generalize n / 2 ^ p.toNat = each at *
  have r1 := prange (c := 2 ^ p.toNat) ho hn (j := 2 * j) (by omega)
  have r2 := prange (c := 2 ^ p.toNat) ho hn (j := 2 * j + 1) (by omega)
  have s1 : pst o (2 * each) j = pst o each (2 * j) := by
    unfold pst
    by_cases c : j = 0
    · rw [if_pos c, if_pos (by omega)]
    · rw [if_neg c, if_neg (by omega), ← Int.mul_assoc, Int.mul_comm j 2]
  have s2 : pst o each (2 * j + 1) = pst o each (2 * j) + pln o each (2 * j) := by
    rw [pend]; unfold pst; rw [if_neg (by omega)]
  have s3 : pln o (2 * each) j = pln o each (2 * j) + pln o each (2 * j + 1) := by
    unfold pln
    by_cases c : j = 0
    · rw [if_pos c, if_pos (by omega), if_neg (by omega)]; omega
    · rw [if_neg c, if_neg (by omega), if_neg (by omega)]; omega
  have s4 : (pln o (2 * each) j).toNat = (pln o each (2 * j)).toNat + (pln o each (2 * j + 1)).toNat := by omega
  have s5 : pst o each (2 * j + 1) = pst o each (2 * j) + ((pln o each (2 * j)).toNat : Int) := by omega
  obtain ⟨a1, a2⟩ := h (2 * j) (by omega) (by omega)
  obtain ⟨b1, b2⟩ := h (2 * j + 1) (by omega) (by omega)
  rw [s1, s4]
  refine ⟨?_, fun t ht => ?_⟩
  · rw [h2 j hj (by omega), uor_split _ _ (fun i c1 c2 => hU i (by omega) (by omega)), ← s5]
    unfold jpU
    rw [a1, b1]
  · rw [h1 _ (by omega) (by omega), usum_split, ← s5]
    unfold jpO
    rw [show (j * 15 + (t : Int)) / 15 = j by omega, show (j * 15 + (t : Int)) % 15 = t by omega, a2 t ht, b2 t ht]
theorem pS_of {U : Int → Int} {n o p j cnt r xw : Int} {On Un K X : Int → Int} (hg : gat U n o p On Un) (hj : 0 ≤ j ∧ j < 2 ^ p.toNat) (hc : cnt = pln o (n / 2 ^ p.toNat) j) (h0 : 0 ≤ Un j) (hx : isBl (Un j) xw)
    (h : r = (partSel (fun t => On (j * 15 + t)) cnt xw).1 ∧ K j = (partSel (fun t => On (j * 15 + t)) cnt xw).2.1 ∧ X j = (partSel (fun t => On (j * 15 + t)) cnt xw).2.2) : r = (pS U o (n / 2 ^ p.toNat) j).1 ∧ K j = (pS U o (n / 2 ^ p.toNat) j).2.1 ∧ X j = (pS U o (n / 2 ^ p.toNat) j).2.2 := by
  obtain ⟨a1, a2⟩ := hg j hj.1 hj.2
  have e : partSel (fun t => On (j * 15 + t)) cnt xw = pS U o (n / 2 ^ p.toNat) j := by
    unfold pS
    rw [isBl_uni hx (bl_is h0), hc, a1]
    exact partSel_congr (fun t ht => a2 t ht)
  rw [e] at h
  exact h
theorem gat_in {U : Int → Int} {n o p j : Int} {On Un : Int → Int} (hU : uIn U o n) (hn : n ≤ 400) (ho : 0 ≤ o ∧ o ≤ n / 2 ^ p.toNat) (he : n = 2 ^ p.toNat * (n / 2 ^ p.toNat)) (hg : gat U n o p On Un) (hj : 0 ≤ j ∧ j < 2 ^ p.toNat) : (0 ≤ Un j ∧ Un j < 16777216) ∧ ∀ t : Nat, t < 15 → 0 ≤ On (j * 15 + t) ∧ On (j * 15 + t) ≤ 17179869184 := by
  obtain ⟨a1, a2⟩ := hg j hj.1 hj.2
  have r := prange ho he hj
  have hin : uIn U (pst o (n / 2 ^ p.toNat) j) (pst o (n / 2 ^ p.toNat) j + ((pln o (n / 2 ^ p.toNat) j).toNat : Int)) := fun i h1 h2 => hU i (by omega) (by omega)
  refine ⟨by rw [a1]; exact uor_in _ hin, fun t ht => ?_⟩
  have := usum_in t _ hin
  rw [a2 t ht]
  omega
theorem pw_nat {j : Int} {k : Nat} (h : j = 2 ^ k) : j.toNat = 2 ^ k := by
  have e : ((2 ^ k : Nat) : Int) = (2 : Int) ^ k := Int.natCast_pow 2 k
  rw [h, ← e, Int.toNat_natCast]
