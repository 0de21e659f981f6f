/-! ===== the other side's writing: foretelling, parts, kinds, written bits ===== -/
def fx (o a b c d : Int) : Int := if o = 0 then 0 else if o = 1 then a else if o = 2 then 2 * a - b else if o = 3 then 3 * a - 3 * b + c else 4 * a - 6 * b + 4 * c - d
def bef (v : Int → Int) (i j : Int) : Int := if j ≤ i then v (i - j) else 0
theorem fx_ft {v : Int → Int} {o i : Int} (ho : 0 ≤ o ∧ o ≤ 4) (hi : o ≤ i) : fx o (bef v i 1) (bef v i 2) (bef v i 3) (bef v i 4) = ft (cFix o) v o 0 i := by
  have g : ∀ j : Int, j ≤ i → bef v i j = v (i - j) := fun j h => if_pos h
  rcases (show o = 0 ∨ o = 1 ∨ o = 2 ∨ o = 3 ∨ o = 4 by omega) with e | e | e | e | e
  · subst e
    show (0 : Int) = 0 / 2 ^ 0
    rfl
  · subst e
    show bef v i 1 = (0 + 1 * v (i - 1 - ((0 : Nat) : Int))) / 2 ^ 0
    rw [g 1 hi, show i - 1 - ((0 : Nat) : Int) = i - 1 by omega, Int.pow_zero, Int.ediv_one]
    omega
  · subst e
    show 2 * bef v i 1 - bef v i 2 = (0 + 2 * v (i - 1 - ((0 : Nat) : Int)) + (-1) * v (i - 1 - ((1 : Nat) : Int))) / 2 ^ 0
    rw [g 1 (by omega), g 2 (by omega), show i - 1 - ((0 : Nat) : Int) = i - 1 by omega, show i - 1 - ((1 : Nat) : Int) = i - 2 by omega, Int.pow_zero, Int.ediv_one]
    omega
  · subst e
    show 3 * bef v i 1 - 3 * bef v i 2 + bef v i 3 = (0 + 3 * v (i - 1 - ((0 : Nat) : Int)) + (-3) * v (i - 1 - ((1 : Nat) : Int)) + 1 * v (i - 1 - ((2 : Nat) : Int))) / 2 ^ 0
    rw [g 1 (by omega), g 2 (by omega), g 3 (by omega), show i - 1 - ((0 : Nat) : Int) = i - 1 by omega, show i - 1 - ((1 : Nat) : Int) = i - 2 by omega, show i - 1 - ((2 : Nat) : Int) = i - 3 by omega, Int.pow_zero, Int.ediv_one]
    omega
  · subst e
    show 4 * bef v i 1 - 6 * bef v i 2 + 4 * bef v i 3 - bef v i 4 = (0 + 4 * v (i - 1 - ((0 : Nat) : Int)) + (-6) * v (i - 1 - ((1 : Nat) : Int)) + 4 * v (i - 1 - ((2 : Nat) : Int)) + (-1) * v (i - 1 - ((3 : Nat) : Int))) / 2 ^ 0
    rw [g 1 (by omega), g 2 (by omega), g 3 (by omega), g 4 (by omega), show i - 1 - ((0 : Nat) : Int) = i - 1 by omega, show i - 1 - ((1 : Nat) : Int) = i - 2 by omega, show i - 1 - ((2 : Nat) : Int) = i - 3 by omega, show i - 1 - ((3 : Nat) : Int) = i - 4 by omega, Int.pow_zero, Int.ediv_one]
    omega
theorem bef_in {v : Int → Int} {i j : Int} (hj : 1 ≤ j) (h : vOk v i) : -65536 ≤ bef v i j ∧ bef v i j ≤ 65536 := by
  unfold bef
  by_cases c : j ≤ i
  · rw [if_pos c]; exact h (i - j) (by omega) (by omega)
  · rw [if_neg c]; decide
def kF (v : Int → Int) (oo os : Int) (oc : Int → Int) (kind i : Int) : Int := if kind = 7 then ft oc v oo os i else ft (cFix (kind - 2)) v (kind - 2) 0 i
theorem kU_kF (v : Int → Int) (oo os : Int) (oc : Int → Int) (kind i : Int) : kU v oo os oc kind i = fld (v i - kF v oo os oc kind i) := by
  unfold kU kF
  by_cases c : kind = 7
  · rw [if_pos c, if_pos c]; rfl
  · rw [if_neg c, if_neg c]; rfl
theorem kF_in {v oc : Int → Int} {oo os kind i : Int} (hk : 2 ≤ kind ∧ kind ≤ 7) (hoo : 0 ≤ oo ∧ oo ≤ 4) (hi : kO oo kind ≤ i) (hc : cfOk oc) (hv : vOk v i) : -134217729 ≤ kF v oo os oc kind i ∧ kF v oo os oc kind i < 134217729 := by
  unfold kF
  unfold kO at hi
  by_cases c : kind = 7
  · rw [if_pos c] at hi ⊢; exact ft_in hoo hi hc hv
  · rw [if_neg c] at hi ⊢; exact ft_in (by omega) hi (cFix_ok (by omega) (fun j _ _ => rfl)) hv
/-! room -/
theorem room_step {e x : Int} (hx : 1 ≤ x) (h : ¬ (-(1 * 2 ^ (x - 1).toNat) ≤ e ∧ e ≤ 1 * 2 ^ (x - 1).toNat - 1)) : (2 : Int) ^ (x + 1 - 1).toNat ≤ fld e := by
  have h2 := pw_succ hx
  rw [show x + 1 - 1 = x by omega]
  unfold fld
  by_cases c : e < 0
  · rw [if_pos c]; omega
  · rw [if_neg c]; omega
theorem room_end {e x : Int} (hx : 1 ≤ x) (h : -(1 * 2 ^ (x - 1).toNat) ≤ e ∧ e ≤ 1 * 2 ^ (x - 1).toNat - 1) (h2 : (2 : Int) ^ (x - 1).toNat ≤ fld e) : isBl (fld e) x := by
  have h3 := pw_succ hx
  refine ⟨by omega, ?_, fun _ => h2⟩
  unfold fld
  by_cases c : e < 0
  · rw [if_pos c]; omega
  · rw [if_neg c]; omega
theorem pw_lt24 {x u : Int} (h : (2 : Int) ^ x.toNat ≤ u) (hu : u < 16777216) : x < 24 := by
  by_cases c : x < 24
  · exact c
  · have z := pw_le (k := 24) x.toNat (by omega)
    rw [show (2 : Int) ^ (24 : Int).toNat = 16777216 by decide] at z
    omega
theorem fld_ne {e : Int} (h : ¬ e = 0) : 1 ≤ fld e := by
  unfold fld
  by_cases c : e < 0
  · rw [if_pos c]; omega
  · rw [if_neg c]; omega
theorem fld_e {e : Int} (h : fld e < 16777216) : -8388608 ≤ e ∧ e < 8388608 := by
  unfold fld at h
  by_cases c : e < 0
  · rw [if_pos c] at h; omega
  · rw [if_neg c] at h; omega
theorem bl_or {a b x y z : Int} (ha : 0 ≤ a ∧ a < 16777216) (hb : 0 ≤ b ∧ b < 16777216) (hx : isBl a x) (hy : isBl b y) (hz : (x < y ∧ z = y) ∨ (¬ x < y ∧ z = x)) : isBl (zOr a b) z := by
  obtain ⟨m, em⟩ := Int.eq_ofNat_of_zero_le ha.1
  obtain ⟨n, en⟩ := Int.eq_ofNat_of_zero_le hb.1
  subst em; subst en
  rw [zOr_nat (by omega) (by omega)]
  have hcast : ∀ q : Nat, (2 : Int) ^ q = ((2 ^ q : Nat) : Int) := fun q => (Int.natCast_pow 2 q).symm
  have l1 : m ≤ m ||| n := Nat.left_le_or
  have l2 : n ≤ m ||| n := Nat.right_le_or
  have hxz : x.toNat ≤ z.toNat := by have := hx.1; have := hy.1; omega
  have hyz : y.toNat ≤ z.toNat := by have := hx.1; have := hy.1; omega
  have p1 : m < 2 ^ z.toNat := by
    have := hx.2.1; rw [hcast] at this
    exact Nat.lt_of_lt_of_le (Int.ofNat_lt.mp this) (Nat.pow_le_pow_right (by decide) hxz)
  have p2 : n < 2 ^ z.toNat := by
    have := hy.2.1; rw [hcast] at this
    exact Nat.lt_of_lt_of_le (Int.ofNat_lt.mp this) (Nat.pow_le_pow_right (by decide) hyz)
  refine ⟨by have := hx.1; have := hy.1; omega, ?_, fun h0 => ?_⟩
  · rw [hcast]; exact Int.ofNat_lt.mpr (Nat.or_lt_two_pow p1 p2)
  · rcases hz with ⟨c, e⟩ | ⟨c, e⟩
    · rw [e]; have := hy.2.2 (by omega); omega
    · rw [e]; have := hx.2.2 (by omega); omega
theorem uor_next {U : Int → Int} {a i : Int} (h : a ≤ i) : uor U a (i + 1 - a).toNat = zOr (uor U a (i - a).toNat) (U i) := by
  rw [show (i + 1 - a).toNat = (i - a).toNat + 1 by omega]
  show zOr _ (U (a + ((i - a).toNat : Int))) = _
  rw [show a + ((i - a).toNat : Int) = i by omega]
theorem usum_next {U : Int → Int} {a i : Int} {t : Nat} (h : a ≤ i) : usum U t a (i + 1 - a).toNat = usum U t a (i - a).toNat + U i / 2 ^ t := by
  rw [show (i + 1 - a).toNat = (i - a).toNat + 1 by omega]
  show _ + U (a + ((i - a).toNat : Int)) / 2 ^ t = _
  rw [show a + ((i - a).toNat : Int) = i by omega]
theorem usum_14 {U : Int → Int} {a : Int} : ∀ m : Nat, uIn U a (a + m) → usum U 14 a m ≤ (m : Int) * 1024
  | 0, _ => by show (0 : Int) ≤ _; omega
  | m + 1, h => by
    have z := usum_14 m (fun i h1 h2 => h i h1 (by omega))
    have u := h (a + m) (by omega) (by omega)
    show usum U 14 a m + U (a + m) / 2 ^ 14 ≤ _
    rw [show (2 : Int) ^ 14 = 16384 by decide]
    omega
/-! parts with a bound -/
def kInv (S : Nat → Int) (cnt k best pk px : Int) : Prop := (best = 1000000000 ∧ (k = 0 ∨ 1000000000 ≤ (kBest S cnt (k - 1).toNat).1)) ∨ (0 < k ∧ best < 1000000000 ∧ best = (kBest S cnt (k - 1).toNat).1 ∧ pk = (kBest S cnt (k - 1).toNat).2 ∧ px = -1)
theorem kInv_new {S : Nat → Int} {cnt k best pk px b : Int} (hk : 0 ≤ k) (h : kInv S cnt k best pk px) (hb : b = kb S cnt k.toNat) (hl : b < best) : kInv S cnt (k + 1) b k (-1) := by
  have z : kBest S cnt k.toNat = (kb S cnt k.toNat, k) := by
    refine kB_new hk ?_
    rcases h with ⟨h1, h2⟩ | ⟨h0, h1, h2, h3⟩
    · rcases h2 with h2 | h2
      · exact Or.inl h2
      · exact Or.inr (by omega)
    · exact Or.inr (by omega)
  have hb9 : best ≤ 1000000000 := by rcases h with ⟨h1, h2⟩ | ⟨h0, h1, h2, h3⟩ <;> omega
  refine Or.inr ⟨by omega, by omega, ?_⟩
  rw [show k + 1 - 1 = k by omega, z]
  exact ⟨hb, rfl, rfl⟩
theorem kInv_old {S : Nat → Int} {cnt k best pk px b : Int} (hk : 0 ≤ k) (h : kInv S cnt k best pk px) (hb : b = kb S cnt k.toNat) (hl : ¬ b < best) : kInv S cnt (k + 1) best pk px := by
  have old : ∀ _ : 0 < k, ¬ kb S cnt k.toNat < (kBest S cnt (k - 1).toNat).1 → kBest S cnt k.toNat = kBest S cnt (k - 1).toNat := fun h0 h1 => kB_old h0 h1
  rcases h with ⟨h1, h2⟩ | ⟨h0, h1, h2, h3⟩
  · refine Or.inl ⟨h1, Or.inr ?_⟩
    rw [show k + 1 - 1 = k by omega]
    by_cases c : k = 0
    · rw [kB_new hk (Or.inl c)]; show 1000000000 ≤ kb S cnt k.toNat; omega
    · by_cases d : kb S cnt k.toNat < (kBest S cnt (k - 1).toNat).1
      · rw [kB_new hk (Or.inr d)]; show 1000000000 ≤ kb S cnt k.toNat; omega
      · rw [old (by omega) d]; omega
  · refine Or.inr ⟨by omega, h1, ?_⟩
    rw [show k + 1 - 1 = k by omega, old h0 (by omega)]
    exact ⟨h2, h3⟩
theorem kInv_end {S : Nat → Int} {cnt k best pk px : Int} (hk : k = 15) (h : kInv S cnt k best pk px) (h14 : kb S cnt 14 < 1000000000) : best = (kBest S cnt 14).1 ∧ pk = (kBest S cnt 14).2 ∧ px = -1 := by
  have e : (k - 1).toNat = 14 := by omega
  unfold kInv at h
  rw [e] at h
  rcases h with ⟨h1, h2⟩ | ⟨h0, h1, h2, h3⟩
  · exfalso
    have z : (kBest S cnt 14).1 ≤ kb S cnt 14 := by
      show (if kb S cnt 14 < (kBest S cnt 13).1 then (kb S cnt 14, ((13 : Nat) : Int) + 1) else kBest S cnt 13).1 ≤ _
      by_cases c : kb S cnt 14 < (kBest S cnt 13).1
      · rw [if_pos c]; exact Int.le_refl _
      · rw [if_neg c]; omega
    omega
  · exact ⟨h2, h3⟩
theorem pS_in {U : Int → Int} {n o each c j : Int} (hn : n ≤ 400) (ho : 0 ≤ o ∧ o ≤ each) (he : n = c * each) (hj : 0 ≤ j ∧ j < c) (hU : uIn U o n) : 0 ≤ (pS U o each j).1 ∧ (pS U o each j).1 ≤ 9609 := by
  have r := prange ho he hj
  have e : ((pln o each j).toNat : Int) = pln o each j := by omega
  have hu : uIn U (pst o each j) (pst o each j + ((pln o each j).toNat : Int)) := fun i h1 h2 => hU i (by omega) (by omega)
  refine partSel_in (by omega) (bl_24 (bl_is (uor_in _ hu).1) (uor_in _ hu).2) (fun t _ => ?_)
  have z := usum_in t _ hu
  omega
theorem may_fin {n o q f : Int} (hf : f = finF n o) (ho : 0 ≤ o ∧ o ≤ n) (hq : 0 ≤ q ∧ q ≤ 4) : may n o q ↔ q ≤ f := by
  obtain ⟨m1, m2, m3, m4⟩ := may_n n o
  have key : (0 ≤ finF n o) ∧ ((n % 2 = 0 ∧ o ≤ n / 2) ↔ 1 ≤ finF n o) ∧ ((n % 4 = 0 ∧ o ≤ n / 4) ↔ 2 ≤ finF n o) ∧ ((n % 8 = 0 ∧ o ≤ n / 8) ↔ 3 ≤ finF n o) ∧ ((n % 16 = 0 ∧ o ≤ n / 16) ↔ 4 ≤ finF n o) := by
    unfold finF
    by_cases c1 : n % 2 = 0 ∧ o ≤ n / 2
    · rw [if_pos c1]
      by_cases c2 : n % 4 = 0 ∧ o ≤ n / 4
      · rw [if_pos c2]
        by_cases c3 : n % 8 = 0 ∧ o ≤ n / 8
        · rw [if_pos c3]
          by_cases c4 : n % 16 = 0 ∧ o ≤ n / 16
          · rw [if_pos c4]; omega
          · rw [if_neg c4]; omega
        · rw [if_neg c3]; omega
      · rw [if_neg c2]; omega
    · rw [if_neg c1]; omega
  subst hf
  rcases (show q = 0 ∨ q = 1 ∨ q = 2 ∨ q = 3 ∨ q = 4 by omega) with e | e | e | e | e
  · subst e
    refine ⟨fun _ => key.1, fun _ => ⟨?_, ?_⟩⟩
    · show n % 2 ^ 0 = 0
      rw [Int.pow_zero]; omega
    · show o ≤ n / 2 ^ 0
      rw [Int.pow_zero]; omega
  · subst e; exact m1.trans key.2.1
  · subst e; exact m2.trans key.2.2.1
  · subst e; exact m3.trans key.2.2.2.1
  · subst e; exact m4.trans key.2.2.2.2
def rInv (f : Nat → Int) (fin p best bp : Int) : Prop := (p = 0 ∧ best = 1000000000) ∨ (0 < p ∧ best = (pMin f (if p - 1 < fin then p - 1 else fin).toNat).1 ∧ bp = (pMin f (if p - 1 < fin then p - 1 else fin).toNat).2)
theorem rInv_new {f : Nat → Int} {fin p best bp b : Int} (hp : 0 ≤ p) (hm : p ≤ fin) (h : rInv f fin p best bp) (hb : b = f p.toNat) (hl : b < best) : rInv f fin (p + 1) b p := by
  refine Or.inr ⟨by omega, ?_⟩
  rw [show (if p + 1 - 1 < fin then p + 1 - 1 else fin) = p by (by_cases c : p + 1 - 1 < fin; { rw [if_pos c]; omega }; { rw [if_neg c]; omega })]
  have z : pMin f p.toNat = (f p.toNat, p) := by
    refine pM_new hp ?_
    rcases h with ⟨h1, h2⟩ | ⟨h1, h2, h3⟩
    · exact Or.inl h1
    · rw [show (if p - 1 < fin then p - 1 else fin) = p - 1 from if_pos (by omega)] at h2
      exact Or.inr (by omega)
  rw [z]
  exact ⟨hb, rfl⟩
theorem rInv_old {f : Nat → Int} {fin p best bp b : Int} (hp : 0 ≤ p) (hm : p ≤ fin) (h : rInv f fin p best bp) (hb : b = f p.toNat) (hb9 : b < 1000000000) (hl : ¬ b < best) : rInv f fin (p + 1) best bp := by
  rcases h with ⟨h1, h2⟩ | ⟨h1, h2, h3⟩
  · omega
  · refine Or.inr ⟨by omega, ?_⟩
    rw [show (if p - 1 < fin then p - 1 else fin) = p - 1 from if_pos (by omega)] at h2 h3
    rw [show (if p + 1 - 1 < fin then p + 1 - 1 else fin) = p by (by_cases c : p + 1 - 1 < fin; { rw [if_pos c]; omega }; { rw [if_neg c]; omega })]
    rw [pM_old h1 (by omega)]
    exact ⟨h2, h3⟩
theorem rInv_skip {f : Nat → Int} {fin p best bp : Int} (hf : 0 ≤ fin) (hm : ¬ p ≤ fin) (h : rInv f fin p best bp) : rInv f fin (p + 1) best bp := by
  rcases h with ⟨h1, h2⟩ | ⟨h1, h2, h3⟩
  · omega
  · refine Or.inr ⟨by omega, ?_⟩
    rw [show (if p - 1 < fin then p - 1 else fin) = fin from if_neg (by omega)] at h2 h3
    rw [show (if p + 1 - 1 < fin then p + 1 - 1 else fin) = fin from if_neg (by omega)]
    exact ⟨h2, h3⟩
theorem rInv_end {f : Nat → Int} {fin p best bp : Int} (hp : p = 5) (hf : fin ≤ 4) (h : rInv f fin p best bp) : best = (pMin f fin.toNat).1 ∧ bp = (pMin f fin.toNat).2 := by
  rcases h with ⟨h1, h2⟩ | ⟨h1, h2, h3⟩
  · omega
  · rw [show (if p - 1 < fin then p - 1 else fin) = fin by (by_cases c : p - 1 < fin; { rw [if_pos c]; omega }; { rw [if_neg c] })] at h2 h3
    exact ⟨h2, h3⟩
theorem psum_in {U : Int → Int} {n o each c : Int} (hn : n ≤ 400) (ho : 0 ≤ o ∧ o ≤ each) (he : n = c * each) (hU : uIn U o n) : ∀ m : Nat, (m : Int) ≤ c → 0 ≤ psum U o each m ∧ psum U o each m ≤ (m : Int) * 9609
  | 0, _ => by show (0 : Int) ≤ 0 ∧ (0 : Int) ≤ _; omega
  | m + 1, h => by
    have z := psum_in hn ho he hU m (by omega)
    have y := pS_in (j := (m : Int)) hn ho he (by omega) hU
    show 0 ≤ psum U o each m + (pS U o each m).1 ∧ psum U o each m + (pS U o each m).1 ≤ _
    omega
theorem pMin_0 (f : Nat → Int) : ∀ m : Nat, (pMin f m).1 ≤ f 0
  | 0 => Int.le_refl _
  | m + 1 => by
    have z := pMin_0 f m
    show (if f (m + 1) < (pMin f m).1 then (f (m + 1), (m : Int) + 1) else pMin f m).1 ≤ _
    by_cases c : f (m + 1) < (pMin f m).1
    · rw [if_pos c]; show f (m + 1) ≤ f 0; omega
    · rw [if_neg c]; exact z
theorem lv_in {U : Int → Int} {n o : Int} (hn : 1 ≤ n ∧ n ≤ 400) (ho : 0 ≤ o ∧ o ≤ n) (hU : uIn U o n) {p : Nat} (hp : (p : Int) ≤ finF n o) : 3 ≤ lvB U n o p ∧ lvB U n o p ≤ 200000 := by
  have hf := fin_facts hn.1 ho (finF_is n o) (p := (p : Int)) (by omega)
  rw [show ((p : Int)).toNat = p from rfl] at hf
  have hpn : (2 : Int) ^ p = ((2 ^ p : Nat) : Int) := (Int.natCast_pow 2 _).symm
  have z := psum_in hn.2 ⟨ho.1, hf.1.1⟩ hf.1.2.1 hU (2 ^ p) (by omega)
  unfold lvB
  omega
theorem pm_in {U : Int → Int} {n o : Int} (hn : 1 ≤ n ∧ n ≤ 400) (ho : 0 ≤ o ∧ o ≤ n) (hU : uIn U o n) : (3 ≤ (pMin (lvB U n o) (finF n o).toNat).1 ∧ (pMin (lvB U n o) (finF n o).toNat).1 ≤ 200000) ∧ (0 ≤ (pMin (lvB U n o) (finF n o).toNat).2 ∧ (pMin (lvB U n o) (finF n o).toNat).2 ≤ finF n o) := by
  have hF := finF_is n o
  have z := pMin_FM (lvB U n o) (finF n o).toNat
  have e := pMin_at (lvB U n o) (finF n o).toNat
  have h1 := z.1
  have h2 := z.2.1
  have y := lv_in hn ho hU (p := (pMin (lvB U n o) (finF n o).toNat).2.toNat) (by have := hF.1; omega)
  rw [e]
  refine ⟨y, ?_⟩
  have := hF.1
  omega
theorem kU_in {v oc : Int → Int} {oo os kind n : Int} (h : allU (kU v oo os oc kind) (kO oo kind) n) : uIn (kU v oo os oc kind) (kO oo kind) n := fun i h1 h2 => ⟨by rw [kU_kF]; exact fld_nn _, h i h1 h2⟩
theorem price_in {v oc : Int → Int} {n b oo os kind : Int} (hn : 1 ≤ n ∧ n ≤ 400) (hb : 0 ≤ b ∧ b ≤ 17) (hoo : 0 ≤ oo ∧ oo ≤ 4) (hk : 0 ≤ kind ∧ kind ≤ 7) (h : price v n b oo os oc kind ≠ -1) : 7 ≤ price v n b oo os oc kind ∧ price v n b oo os oc kind ≤ 300000 := by
  have hnb := mul_in (A := 400) (C := 17) (a := n) (b := b) (by omega) (by omega) (by decide)
  have hn0 : 0 ≤ n * b := Int.mul_nonneg (by omega) hb.1
  rcases (show kind = 0 ∨ kind = 1 ∨ 2 ≤ kind by omega) with e | e | e
  · subst e
    by_cases c : alk v n.toNat = true
    · rw [price_0t c]; omega
    · exact absurd (price_0f c) h
  · subst e; rw [price_1]; omega
  · obtain ⟨⟨h1, h2⟩, h3, h4⟩ := price_may e h
    rw [h4]
    have ho := kO_nn (oo := oo) hoo.1 e
    have z := (pm_in hn ⟨ho, h1⟩ (kU_in h2)).1
    have hob := mul_in (A := 5) (C := 17) (a := kO oo kind) (b := b) (by have : kO oo kind ≤ 5 := (by unfold kO; (by_cases c : kind = 7); { rw [if_pos c]; omega }; { rw [if_neg c]; omega }); omega) (by omega) (by decide)
    have ho0 : 0 ≤ kO oo kind * b := Int.mul_nonneg ho hb.1
    by_cases c : kind = 7
    · rw [if_pos c]; omega
    · rw [if_neg c]; omega
/-! the best kind -/
def bInv (pr : Nat → Int) (k bits best : Int) : Prop := (k = 0 ∧ bits = 1000000000) ∨ (0 < k ∧ (((bK pr (k - 1).toNat).1 = -1 ∧ bits = 1000000000) ∨ ((bK pr (k - 1).toNat).1 ≠ -1 ∧ bits = (bK pr (k - 1).toNat).1 ∧ best = (bK pr (k - 1).toNat).2)))
theorem bInv_new {pr : Nat → Int} {k bits best b : Int} (hk : 0 ≤ k) (h : bInv pr k bits best) (hb : pr k.toNat ≠ -1 ∧ b = pr k.toNat) (hl : b < bits) : bInv pr (k + 1) b k := by
  have z := bK_new hk hb.1 (by
    rcases h with ⟨h1, h2⟩ | ⟨h0, ⟨h1, h2⟩ | ⟨h1, h2, h3⟩⟩
    · exact Or.inl h1
    · exact Or.inr (Or.inl h1)
    · exact Or.inr (Or.inr (by omega)))
  refine Or.inr ⟨by omega, Or.inr ?_⟩
  rw [show k + 1 - 1 = k by omega, z]
  exact ⟨hb.1, hb.2, rfl⟩
theorem bInv_old {pr : Nat → Int} {k bits best b : Int} (hk : 0 ≤ k) (h : bInv pr k bits best) (hb : (pr k.toNat = -1 ∧ b = 1000000000) ∨ (pr k.toNat ≠ -1 ∧ b = pr k.toNat ∧ b < 1000000000)) (hl : ¬ b < bits) : bInv pr (k + 1) bits best := by
  refine Or.inr ⟨by omega, ?_⟩
  rw [show k + 1 - 1 = k by omega]
  rcases h with ⟨h1, h2⟩ | ⟨h0, h⟩
  · rcases hb with ⟨e, _⟩ | ⟨e, e2, e3⟩
    · subst h1
      exact Or.inl ⟨e, h2⟩
    · omega
  · have z := bK_old (pr := pr) h0 (by
      rcases hb with ⟨e, _⟩ | ⟨e, e2, e3⟩
      · exact Or.inl e
      · right
        rcases h with ⟨h1, h2⟩ | ⟨h1, h2, h3⟩
        · omega
        · exact ⟨h1, by omega⟩)
    rw [z]; exact h
theorem bInv_end {pr : Nat → Int} {k bits best : Int} (hk : k = 8) (h1 : pr 1 ≠ -1) (h : bInv pr k bits best) : best = (bK pr 7).2 ∧ bits = (bK pr 7).1 := by
  subst hk
  have z := bK_ne pr h1 6
  rcases h with ⟨h1, h2⟩ | ⟨h0, ⟨h1, h2⟩ | ⟨h1, h2, h3⟩⟩
  · omega
  · exact absurd h1 z
  · exact ⟨h3, h2⟩
theorem bK_in (pr : Nat → Int) : ∀ m : Nat, 0 ≤ (bK pr m).2 ∧ (bK pr m).2 ≤ m
  | 0 => ⟨Int.le_refl _, Int.le_refl _⟩
  | m + 1 => by
    have z := bK_in pr m
    show 0 ≤ (if pr (m + 1) ≠ -1 ∧ ((bK pr m).1 = -1 ∨ pr (m + 1) < (bK pr m).1) then (pr (m + 1), (m : Int) + 1) else bK pr m).2 ∧ (if pr (m + 1) ≠ -1 ∧ ((bK pr m).1 = -1 ∨ pr (m + 1) < (bK pr m).1) then (pr (m + 1), (m : Int) + 1) else bK pr m).2 ≤ _
    by_cases c : pr (m + 1) ≠ -1 ∧ ((bK pr m).1 = -1 ∨ pr (m + 1) < (bK pr m).1)
    · rw [if_pos c]; show 0 ≤ (m : Int) + 1 ∧ (m : Int) + 1 ≤ _; omega
    · rw [if_neg c]; omega
/-! bits put one by one -/
def orB (b m bit : Int) : Int := zOr b (bit * 2 ^ (7 - m).toNat)
theorem orB_ok : ∀ b : Nat, b < 256 → ∀ m : Nat, m < 8 → ∀ bit : Nat, bit < 2 → (b : Int) % 2 ^ (8 - (m : Int)).toNat ≠ 0 ∨ ((0 ≤ orB b m bit ∧ orB b m bit < 256) ∧ orB b m bit % 2 ^ (7 - (m : Int)).toNat = 0 ∧ ∀ k : Nat, k < 8 → orB b m bit / 2 ^ (7 - (k : Int)).toNat % 2 = if k = m then (bit : Int) else (b : Int) / 2 ^ (7 - (k : Int)).toNat % 2) := by decide +kernel
def tl (M : Int → Int) (p : Int) : Prop := ¬ p % 8 = 0 → M (p / 8) % 2 ^ (8 - p % 8).toNat = 0
theorem wrote_or {N : Int} {B : Int → Int} {p bit : Int} (hB : ∀ j, 0 ≤ j → j < N → 0 ≤ B j ∧ B j < 256) (h0 : 0 ≤ p) (h1 : p < 8 * N) (hb : bit = 0 ∨ bit = 1) (ht : B (p / 8) % 2 ^ (8 - p % 8).toNat = 0) : wrote N B p [bit] (zup B (p / 8) (zOr (B (p / 8)) (bit * 2 ^ (7 - p % 8).toNat))) ∧ tl (zup B (p / 8) (zOr (B (p / 8)) (bit * 2 ^ (7 - p % 8).toNat))) (p + 1) := by
  have hb0 := hB (p / 8) (by omega) (by omega)
  obtain ⟨b, eb⟩ := Int.eq_ofNat_of_zero_le hb0.1
  obtain ⟨m, em⟩ := Int.eq_ofNat_of_zero_le (show 0 ≤ p % 8 by omega)
  obtain ⟨t, et⟩ := Int.eq_ofNat_of_zero_le (show 0 ≤ bit by omega)
  obtain ⟨q1, q3, q2⟩ := (orB_ok b (by omega) m (by omega) t (by omega)).resolve_left (fun z => z (by rw [← eb, ← em]; exact ht))
  unfold orB at q1 q2 q3
  have bits : ∀ r, 0 ≤ r → bitAt (zup B (p / 8) (zOr (B (p / 8)) (bit * 2 ^ (7 - p % 8).toNat))) r = if r = p then bit else bitAt B r := by
    intro r hr
    unfold bitAt
    by_cases c : r / 8 = p / 8
    · obtain ⟨k, ek⟩ := Int.eq_ofNat_of_zero_le (show 0 ≤ r % 8 by omega)
      rw [c, zup_s, eb, em, et, ek, q2 k (by omega)]
      by_cases c2 : k = m
      · rw [if_pos c2, if_pos (by omega)]
      · rw [if_neg c2, if_neg (by omega)]
    · rw [zup_n c, if_neg (fun e => c (by rw [e]))]
  refine ⟨⟨fun j hj hj2 => ?_, fun k hk => ?_, fun r hr hr2 => ?_⟩, fun hq => ?_⟩
  · by_cases c : j = p / 8
    · rw [c, zup_s, eb, em, et]; exact q1
    · rw [zup_n c]; exact hB j hj hj2
  · have : k = 0 := by simp at hk; omega
    subst this
    rw [show p + ((0 : Nat) : Int) = p by omega, bits p h0, if_pos rfl]
    rfl
  · rw [bits r hr, if_neg (by omega)]
  · rw [show (p + 1) / 8 = p / 8 by omega, zup_s, show 8 - (p + 1) % 8 = 7 - p % 8 by omega, eb, em, et]
    exact q3
theorem wrote_z {N : Int} {B : Int → Int} {p : Int} (hB : ∀ j, 0 ≤ j → j < N → 0 ≤ B j ∧ B j < 256) (h : p % 8 = 0) : wrote N B p [] (zup B (p / 8) 0) ∧ (zup B (p / 8) 0) (p / 8) % 2 ^ (8 - p % 8).toNat = 0 := by
  refine ⟨⟨fun j hj hj2 => ?_, fun k hk => absurd hk (by simp), fun r hr hr2 => ?_⟩, ?_⟩
  · by_cases c : j = p / 8
    · rw [c, zup_s]; decide
    · rw [zup_n c]; exact hB j hj hj2
  · unfold bitAt
    rw [zup_n (by omega)]
  · rw [zup_s]; exact Int.zero_emod _
theorem nb_down {v w k : Int} (h0 : 0 ≤ k) (h1 : k ≤ w - 1) : nb v w.toNat (w - 1 - (k - 1)).toNat = nb v w.toNat (w - 1 - k).toNat ++ [v / 2 ^ k.toNat % 2] := by
  rw [show (w - 1 - (k - 1)).toNat = (w - 1 - k).toNat + 1 by omega, nb_succ, show w.toNat - 1 - (w - 1 - k).toNat = k.toNat by omega]
theorem zAndL_1 (a : Int) : zAndL a 1 = a % 2 := by
  unfold zAndL
  have e : lI a &&& lI 1 = lI (a % 2) := by
    apply Int64.toBitVec_inj.mp
    rw [Int64.toBitVec_and, lI_toBv, lI_toBv, lI_toBv]
    apply BitVec.eq_of_toNat_eq
    rw [BitVec.toNat_and, BitVec.toNat_ofInt, BitVec.toNat_ofInt, BitVec.toNat_ofInt]
    rw [show ((1 : Int) % ((2 ^ 64 : Nat) : Int)).toNat = 1 by decide, Nat.and_one_is_mod]
    have h64 : ((2 ^ 64 : Nat) : Int) = 18446744073709551616 := by decide
    rw [h64]
    omega
  rw [e, lI_toInt (by omega)]
theorem zOrL_add {h k r : Int} (hh : 0 ≤ h) (hr : 0 ≤ r ∧ r < 2 ^ k.toNat) (hb : h * 2 ^ k.toNat + r < 1099511627776) : zOrL (h * 2 ^ k.toNat) r = h * 2 ^ k.toNat + r := by
  obtain ⟨m, em⟩ := Int.eq_ofNat_of_zero_le hh
  obtain ⟨n, en⟩ := Int.eq_ofNat_of_zero_le hr.1
  subst em; subst en
  have hc : (2 : Int) ^ k.toNat = ((2 ^ k.toNat : Nat) : Int) := (Int.natCast_pow 2 _).symm
  have hm : (m : Int) * 2 ^ k.toNat = ((2 ^ k.toNat * m : Nat) : Int) := by rw [hc, Int.natCast_mul, Int.mul_comm]
  have hn : n < 2 ^ k.toNat := by have := hr.2; rw [hc] at this; exact Int.ofNat_lt.mp this
  rw [hm] at hb ⊢
  have ho := Nat.two_pow_add_eq_or_of_lt hn m
  unfold zOrL
  have e : lI ((2 ^ k.toNat * m : Nat) : Int) ||| lI (n : Int) = lI (((2 ^ k.toNat * m : Nat) : Int) + (n : Int)) := by
    apply Int64.toBitVec_inj.mp
    rw [Int64.toBitVec_or, lI_toBv, lI_toBv, lI_toBv]
    apply BitVec.eq_of_toNat_eq
    rw [BitVec.toNat_or, ← Int.natCast_add]
    simp only [BitVec.ofInt_natCast, BitVec.toNat_ofNat]
    rw [Nat.mod_eq_of_lt (by omega), Nat.mod_eq_of_lt (by omega), Nat.mod_eq_of_lt (by omega), ← ho]
  rw [e, lI_toInt (by omega)]
theorem nb_get {v : Int} {w k j : Nat} (h : j < k) : (nb v w k).getD j 0 = v / 2 ^ (w - 1 - j) % 2 := by
  unfold nb
  rw [List.getD_eq_getElem?_getD, List.getElem?_map, List.getElem?_range h]
  rfl
