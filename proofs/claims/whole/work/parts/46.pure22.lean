/-! ===== what a pack is: the same on both sides ===== -/
theorem kU_oc {v oc od : Int → Int} {oo os ot kind : Int} (h0 : 0 < oo → os = ot) (h : eqOn oc od 0 oo) (hk : kind = 7 → 0 < oo) : kU v oo os oc kind = kU v oo ot od kind := by
  unfold kU
  by_cases c : kind = 7
  · rw [if_pos c, if_pos c, h0 (hk c)]
    exact rests_congr h
  · rw [if_neg c, if_neg c]
theorem price_oc {v oc od : Int → Int} {n b oo os ot kind : Int} (hoo : 0 ≤ oo) (h0 : 0 < oo → os = ot) (h : eqOn oc od 0 oo) : price v n b oo os oc kind = price v n b oo ot od kind := by
  unfold price
  by_cases c0 : kind = 0
  · rw [if_pos c0, if_pos c0]
  · rw [if_neg c0, if_neg c0]
    by_cases c1 : kind = 1
    · rw [if_pos c1, if_pos c1]
    · rw [if_neg c1, if_neg c1]
      by_cases c2 : kind = 7 ∧ oo = 0
      · rw [if_pos c2, if_pos c2]
      · rw [if_neg c2, if_neg c2, kU_oc h0 h (fun q => by have : ¬ oo = 0 := fun z => c2 ⟨q, z⟩; omega)]
theorem rowIs_oc {v oc od K X : Int → Int} {n b oo os ot kd bits p : Int} (hoo : 0 ≤ oo) (h0 : 0 < oo → os = ot) (h : eqOn oc od 0 oo) (hr : rowIs v n b oo os oc kd bits p K X) : rowIs v n b oo ot od kd bits p K X ∧ (kd = 7 → 0 < oo) := by
  have e : bK (prF v n b oo os oc) 7 = bK (prF v n b oo ot od) 7 := bK_congr 7 (fun q _ => price_oc hoo h0 h)
  have hp := bK_price (prF v n b oo os oc) 7
  have h7 : kd = 7 → 0 < oo := by
    intro q
    have z : price v n b oo os oc kd ≠ -1 := by
      have : prF v n b oo os oc kd.toNat = price v n b oo os oc kd := by
        show price v n b oo os oc (kd.toNat : Int) = _
        rw [show (kd.toNat : Int) = kd by have := hr.2.2.2.2.1; omega]
      rw [← this, hr.2.1, ← hp.1, ← hr.1]
      exact hr.2.2.1
    have := (price_may (by omega) z).2.1 q
    omega
  refine ⟨⟨by rw [← e]; exact hr.1, by rw [← e]; exact hr.2.1, hr.2.2.1, hr.2.2.2.1, hr.2.2.2.2.1, hr.2.2.2.2.2.1, fun q => ?_⟩, h7⟩
  have z := hr.2.2.2.2.2.2 q
  rw [kU_oc h0 h h7] at z
  exact z
theorem orF_cg {f g : Int → Int} : ∀ n : Nat, eqOn f g 0 n → orF f n = orF g n
  | 0, _ => rfl
  | n + 1, h => by
    show zOr (orF f n) (f n) = zOr (orF g n) (g n)
    rw [orF_cg n (fun j h1 h2 => h j h1 (by omega)), h n (by omega) (by omega)]
theorem form_cg {f g oc od K X : Int → Int} {n rb oo os ot kd ws bits p : Int} (hn : 1 ≤ n) (hoo : 0 ≤ oo) (hf : eqOn f g 0 n) (h0 : 0 < oo → os = ot) (h : eqOn oc od 0 oo) (hr : formOf f n rb oo os oc kd ws bits p K X) : formOf g n rb oo ot od kd ws bits p K X := by
  refine ⟨by rw [← orF_cg n.toNat (fun j h1 h2 => hf j h1 (by omega))]; exact hr.1, hr.2.1, ?_⟩
  exact (rowIs_oc hoo h0 h (rowIs_congr hn hoo (fun j h1 h2 => by show f j / _ = g j / _; rw [hf j h1 h2]) hr.2.2)).1
/-- two forms of one row are one -/
theorem form_uni {f oc K X L Y : Int → Int} {n rb oo os kd ws bits p kd2 ws2 bits2 p2 : Int} (h : formOf f n rb oo os oc kd ws bits p K X) (h2 : formOf f n rb oo os oc kd2 ws2 bits2 p2 L Y) : kd = kd2 ∧ ws = ws2 ∧ bits = bits2 ∧ p = p2 ∧ (∀ j, 0 ≤ j → j < cparts p → K j = L j ∧ X j = Y j) := by
  have e := isW_uni h.1 h2.1
  subst e
  have ek : kd = kd2 := by rw [h.2.2.2.1, h2.2.2.2.1]
  subst ek
  have hk := h.2.2.2.2.2.2.1
  have eb : bits = bits2 := by rw [h.2.2.1, h2.2.2.1]
  have t1 := h.2.2.2.2.2.2.2
  have t2 := h2.2.2.2.2.2.2.2
  by_cases c : kd < 2
  · have p1 := t1.1 c
    have p3 := t2.1 c
    refine ⟨rfl, rfl, eb, by omega, fun j h3 h4 => ?_⟩
    rw [p1] at h4
    have : cparts (-1) = 0 := by decide
    omega
  · obtain ⟨a1, a2, a3⟩ := t1.2 (by omega)
    obtain ⟨b1, b2, b3⟩ := t2.2 (by omega)
    have ep : p = p2 := by rw [a1, b1]
    subst ep
    refine ⟨rfl, rfl, eb, rfl, fun j h3 h4 => ?_⟩
    have h5 : j < 2 ^ p.toNat := by
      unfold cparts at h4
      rw [if_neg (by omega)] at h4
      exact h4
    have z1 := a3 j h3 h5
    have z2 := b3 j h3 h5
    rw [z1.1, z1.2, z2.1, z2.2]
    exact ⟨rfl, rfl⟩
theorem partsB_kx {U K X L Y : Int → Int} {o each c : Int} (h : ∀ j, 0 ≤ j → j < c → K j = L j ∧ X j = Y j) : ∀ m : Nat, (m : Int) ≤ c → partsB U o each K X m = partsB U o each L Y m
  | 0, _ => rfl
  | m + 1, hm => by
    show partsB U o each K X m ++ partB U (K m) (X m) (pst o each m) (pln o each m).toNat = partsB U o each L Y m ++ partB U (L m) (Y m) (pst o each m) (pln o each m).toNat
    rw [partsB_kx h m (by omega), (h m (by omega) (by omega)).1, (h m (by omega) (by omega)).2]
theorem rowB_kx {v oc K X L Y : Int → Int} {n b w oo os kd p : Int} (hk : 0 ≤ kd) (hp : 2 ≤ kd → 0 ≤ p) (h : ∀ j, 0 ≤ j → j < cparts p → K j = L j ∧ X j = Y j) : rowB v n b w oo os oc kd p K X = rowB v n b w oo os oc kd p L Y := by
  unfold rowB bodyB
  by_cases c0 : kd = 0
  · rw [if_pos c0, if_pos c0]
  · rw [if_neg c0, if_neg c0]
    by_cases c1 : kd = 1
    · rw [if_pos c1, if_pos c1]
    · rw [if_neg c1, if_neg c1]
      have hpp := hp (by omega)
      have e : ((2 ^ p.toNat : Nat) : Int) = cparts p := by
        unfold cparts
        rw [if_neg (by omega)]
        exact Int.natCast_pow 2 _
      have key : ∀ (U : Int → Int) (o : Int), partsB U o (n / 2 ^ p.toNat) K X (2 ^ p.toNat) = partsB U o (n / 2 ^ p.toNat) L Y (2 ^ p.toNat) := fun U o => partsB_kx h _ (by omega)
      unfold foreB
      rw [key, key]
theorem cofB_cg {c d : Int → Int} : ∀ m : Nat, eqOn c d 0 m → cofB c m = cofB d m
  | 0, _ => rfl
  | m + 1, h => by
    show cofB c m ++ nb (c m) 10 10 = cofB d m ++ nb (d m) 10 10
    rw [cofB_cg m (fun j h1 h2 => h j h1 (by omega)), h m (by omega) (by omega)]
theorem rowB_oc {v oc od K X : Int → Int} {n b w oo os ot kd p : Int} (h0 : 0 < oo → os = ot) (h : eqOn oc od 0 oo) (h7 : kd = 7 → 0 < oo) : rowB v n b w oo os oc kd p K X = rowB v n b w oo ot od kd p K X := by
  unfold rowB bodyB
  by_cases c0 : kd = 0
  · rw [if_pos c0, if_pos c0]
  · rw [if_neg c0, if_neg c0]
    by_cases c1 : kd = 1
    · rw [if_pos c1, if_pos c1]
    · rw [if_neg c1, if_neg c1]
      by_cases c7 : kd = 7
      · rw [if_pos c7, if_pos c7]
        unfold headB
        rw [h0 (h7 c7), cofB_cg oo.toNat (fun j h1 h2 => h j h1 (by omega)), rests_congr h]
      · rw [if_neg c7, if_neg c7]
/-- a row's bits by its form -/
abbrev rowBF (f : Int → Int) (n rb oo os : Int) (oc : Int → Int) (kd ws p : Int) (K X : Int → Int) : List Int := rowB (sv f ws) n (rb - ws) ws oo os oc kd p K X
/-- the forms of one row, told of like values, on two sides: one form, the same bits -/
theorem form_two {f g oc od K X L Y : Int → Int} {n rb oo os ot kd ws bits p kd2 ws2 bits2 p2 : Int} (hn : 1 ≤ n ∧ n ≤ 400) (hoo : 0 ≤ oo ∧ oo ≤ 4) (hf : eqOn f g 0 n) (h0 : 0 < oo → os = ot) (hc : eqOn oc od 0 oo) (h : formOf f n rb oo os oc kd ws bits p K X) (h2 : formOf g n rb oo ot od kd2 ws2 bits2 p2 L Y) :
    (kd = kd2 ∧ ws = ws2 ∧ bits = bits2 ∧ p = p2 ∧ (∀ j, 0 ≤ j → j < cparts p → K j = L j ∧ X j = Y j)) ∧ rowBF f n rb oo os oc kd ws p K X = rowBF g n rb oo ot od kd2 ws2 p2 L Y := by
  have u := form_uni (form_cg hn.1 hoo.1 hf h0 hc h) h2
  refine ⟨u, ?_⟩
  obtain ⟨e1, e2, e3, e4, e5⟩ := u
  subst e1; subst e2; subst e4
  unfold rowBF
  rw [rowB_congr hn hoo (fun j h1 h2 => show sv f ws j = sv g ws j by show f j / _ = g j / _; rw [hf j h1 h2]) h.2.2]
  rw [rowB_oc h0 hc (rowIs_oc hoo.1 h0 hc h.2.2).2]
  refine rowB_kx (by have := h.2.2.2.2.2.2.1; omega) (fun q => ?_) e5
  have := (h.2.2.2.2.2.2.2.2 q).2.1
  omega
def selR (f0 f1 : Int → Int) (j : Int) : Int → Int := if j = 0 then f0 else if j = 1 then f1 else if j = 2 then (fun i => f0 i - f1 i) else (fun i => (f0 i + f1 i) / 2)
def rbJ (sb j : Int) : Int := if j = 2 then sb + 1 else sb
theorem selR_cg {f0 f1 g0 g1 : Int → Int} {n : Int} (h0 : eqOn f0 g0 0 n) (h1 : eqOn f1 g1 0 n) (j : Int) : eqOn (selR f0 f1 j) (selR g0 g1 j) 0 n := by
  unfold selR
  intro i a b
  by_cases c0 : j = 0
  · rw [if_pos c0, if_pos c0]; exact h0 i a b
  · rw [if_neg c0, if_neg c0]
    by_cases c1 : j = 1
    · rw [if_pos c1, if_pos c1]; exact h1 i a b
    · rw [if_neg c1, if_neg c1]
      by_cases c2 : j = 2
      · rw [if_pos c2, if_pos c2]; show f0 i - f1 i = g0 i - g1 i; rw [h0 i a b, h1 i a b]
      · rw [if_neg c2, if_neg c2]; show (f0 i + f1 i) / 2 = (g0 i + g1 i) / 2; rw [h0 i a b, h1 i a b]
/-- the TURN and the bits of a frame -/
def pkTot (f0 f1 : Int → Int) (n ch sb oo os : Int) (oc : Int → Int) (tn T : Int) : Prop :=
  (ch = 1 ∧ tn = 0 ∧ ∃ kd ws b p K X, formOf f0 n sb oo os oc kd ws b p K X ∧ T = 16 + b) ∨
  (ch = 2 ∧ ∃ bb : Int → Int, (∀ k, 0 ≤ k → k ≤ 3 → ∃ kd ws p K X, formOf (selR f0 f1 k) n (rbJ sb k) oo os oc kd ws (bb k) p K X) ∧ tn = (pMin (tSum bb) 3).2 ∧ T = (pMin (tSum bb) 3).1)
theorem pMin_cg {f g : Nat → Int} : ∀ m : Nat, (∀ q : Nat, q ≤ m → f q = g q) → pMin f m = pMin g m
  | 0, h => by show (f 0, (0 : Int)) = (g 0, 0); rw [h 0 (Nat.le_refl _)]
  | m + 1, h => by
    show (if f (m + 1) < (pMin f m).1 then (f (m + 1), (m : Int) + 1) else pMin f m) = (if g (m + 1) < (pMin g m).1 then (g (m + 1), (m : Int) + 1) else pMin g m)
    rw [h (m + 1) (Nat.le_refl _), pMin_cg m (fun q hq => h q (by omega))]
theorem tSum_cg {a b : Int → Int} (h : ∀ k, 0 ≤ k → k ≤ 3 → a k = b k) (t : Nat) (ht : t ≤ 3) : tSum a t = tSum b t := by
  have h1 := zF_in t (by omega)
  have h2 := zS_in t (by omega)
  rw [show ((t : Int)).toNat = t from rfl] at h1 h2
  unfold tSum
  rw [h _ h1.1 h1.2, h _ h2.1 h2.2]
theorem pkTot_uni {f0 f1 g0 g1 oc od : Int → Int} {n ch sb oo os ot tn T tn2 T2 : Int} (hn : 1 ≤ n ∧ n ≤ 400) (hoo : 0 ≤ oo ∧ oo ≤ 4) (hf0 : eqOn f0 g0 0 n) (hf1 : ch = 2 → eqOn f1 g1 0 n) (h0 : 0 < oo → os = ot) (hc : eqOn oc od 0 oo) (h : pkTot f0 f1 n ch sb oo os oc tn T) (h2 : pkTot g0 g1 n ch sb oo ot od tn2 T2) : tn = tn2 ∧ T = T2 := by
  rcases h with ⟨c, a1, kd, ws, b, p, K, X, a2, a3⟩ | ⟨c, bb, a1, a2, a3⟩
  · rcases h2 with ⟨c', b1, kd2, ws2, b2, p2, K2, X2, b3, b4⟩ | ⟨c', _⟩
    · have u := (form_two hn hoo hf0 h0 hc a2 b3).1.2.2.1
      omega
    · omega
  · rcases h2 with ⟨c', _⟩ | ⟨c', bc, b1, b2, b3⟩
    · omega
    · have e : ∀ k, 0 ≤ k → k ≤ 3 → bb k = bc k := by
        intro k k1 k2
        obtain ⟨kd, ws, p, K, X, a4⟩ := a1 k k1 k2
        obtain ⟨kd2, ws2, p2, K2, X2, b4⟩ := b1 k k1 k2
        exact (form_two hn hoo (selR_cg hf0 (hf1 c) k) h0 hc a4 b4).1.2.2.1
      have e2 : pMin (tSum bb) 3 = pMin (tSum bc) 3 := pMin_cg 3 (fun q hq => tSum_cg e q hq)
      rw [a2, a3, b2, b3, e2]
      exact ⟨rfl, rfl⟩
