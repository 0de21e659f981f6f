/-! ===== a ROW speaks of its n values alone; its bits are as many as its price ===== -/
def eqOn (f g : Int → Int) (a b : Int) : Prop := ∀ j, a ≤ j → j < b → f j = g j
theorem usum_congr {U T : Int → Int} {t : Nat} {a : Int} : ∀ m : Nat, eqOn U T a (a + m) → usum U t a m = usum T t a m
  | 0, _ => rfl
  | m + 1, h => by
    show usum U t a m + U (a + m) / 2 ^ t = usum T t a m + T (a + m) / 2 ^ t
    rw [usum_congr m (fun j h1 h2 => h j h1 (by omega)), h (a + m) (by omega) (by omega)]
theorem uor_congr {U T : Int → Int} {a : Int} : ∀ m : Nat, eqOn U T a (a + m) → uor U a m = uor T a m
  | 0, _ => rfl
  | m + 1, h => by
    show zOr (uor U a m) (U (a + m)) = zOr (uor T a m) (T (a + m))
    rw [uor_congr m (fun j h1 h2 => h j h1 (by omega)), h (a + m) (by omega) (by omega)]
theorem pS_congr {U T : Int → Int} {o each j : Int} (h : eqOn U T (pst o each j) (pst o each j + ((pln o each j).toNat : Int))) : pS U o each j = pS T o each j := by
  unfold pS
  rw [uor_congr _ h]
  exact partSel_congr (fun t _ => usum_congr _ h)
theorem psum_congr {U T : Int → Int} {n o each c : Int} (ho : 0 ≤ o ∧ o ≤ each) (hn : n = c * each) (h : eqOn U T o n) : ∀ m : Nat, (m : Int) ≤ c → psum U o each m = psum T o each m
  | 0, _ => rfl
  | m + 1, hm => by
    have r := prange ho hn (j := m) (by omega)
    show psum U o each m + (pS U o each m).1 = psum T o each m + (pS T o each m).1
    rw [psum_congr ho hn h m (by omega), pS_congr (fun i h1 h2 => h i (by omega) (by omega))]
theorem pMin_congr {f g : Nat → Int} : ∀ m : Nat, (∀ q : Nat, q ≤ m → f q = g q) → pMin f m = pMin g m
  | 0, h => by show (f 0, (0 : Int)) = (g 0, 0); rw [h 0 (Nat.le_refl _)]
  | m + 1, h => by
    show (if f (m + 1) < (pMin f m).1 then (f (m + 1), (m : Int) + 1) else pMin f m) = (if g (m + 1) < (pMin g m).1 then (g (m + 1), (m : Int) + 1) else pMin g m)
    rw [h (m + 1) (Nat.le_refl _), pMin_congr m (fun q hq => h q (by omega))]
theorem finF_is (n o : Int) : isFin n o (finF n o) := by
  obtain ⟨m1, m2, m3, m4⟩ := may_n n o
  have d4 : ∀ q : Int, n % 16 = 0 → (n % 8 = 0 ∧ n % 4 = 0 ∧ n % 2 = 0) := fun _ h => by omega
  unfold finF
  split
  · rename_i h1
    split
    · rename_i h2
      split
      · rename_i h3
        split
        · rename_i h4
          exact ⟨by decide, by decide, fun q a b => by rcases (show q = 1 ∨ q = 2 ∨ q = 3 ∨ q = 4 by omega) with e | e | e | e <;> subst e; { exact m1.mpr h1 }; { exact m2.mpr h2 }; { exact m3.mpr h3 }; { exact m4.mpr h4 }, fun h => by omega⟩
        · rename_i h4
          exact ⟨by decide, by decide, fun q a b => by rcases (show q = 1 ∨ q = 2 ∨ q = 3 by omega) with e | e | e <;> subst e; { exact m1.mpr h1 }; { exact m2.mpr h2 }; { exact m3.mpr h3 }, fun _ h => h4 (m4.mp h)⟩
      · rename_i h3
        exact ⟨by decide, by decide, fun q a b => by rcases (show q = 1 ∨ q = 2 by omega) with e | e <;> subst e; { exact m1.mpr h1 }; { exact m2.mpr h2 }, fun _ h => h3 (m3.mp h)⟩
    · rename_i h2
      exact ⟨by decide, by decide, fun q a b => by rw [show q = 1 by omega]; exact m1.mpr h1, fun _ h => h2 (m2.mp h)⟩
  · rename_i h1
    exact ⟨by decide, by decide, fun q a b => by omega, fun _ h => h1 (m1.mp h)⟩
theorem lvB_congr {U T : Int → Int} {n o : Int} (hn : 1 ≤ n) (ho : 0 ≤ o ∧ o ≤ n) (h : eqOn U T o n) {p : Nat} (hp : (p : Int) ≤ finF n o) : lvB U n o p = lvB T n o p := by
  have hf := fin_facts (p := (p : Int)) hn ho (finF_is n o) ⟨by omega, hp⟩
  rw [Int.toNat_natCast] at hf
  have e : ((2 ^ p : Nat) : Int) = (2 : Int) ^ p := Int.natCast_pow 2 p
  unfold lvB
  rw [psum_congr (c := 2 ^ p) ⟨ho.1, hf.1.1⟩ hf.1.2.1 h (2 ^ p) (by rw [e]; exact Int.le_refl _)]
theorem rowM_congr {U T : Int → Int} {n o : Int} (hn : 1 ≤ n) (ho : 0 ≤ o ∧ o ≤ n) (h : eqOn U T o n) : pMin (lvB U n o) (finF n o).toNat = pMin (lvB T n o) (finF n o).toNat :=
  pMin_congr _ (fun q hq => lvB_congr hn ho h (by have := (finF_is n o).1; omega))
theorem allU_congr {U T : Int → Int} {n o : Int} (h : eqOn U T o n) : allU U o n ↔ allU T o n := ⟨fun a i h1 h2 => by rw [← h i h1 h2]; exact a i h1 h2, fun a i h1 h2 => by rw [h i h1 h2]; exact a i h1 h2⟩
theorem rowP_congr {U T : Int → Int} {n o b ex : Int} (hn : 1 ≤ n) (ho : 0 ≤ o) (h : eqOn U T o n) : rowP U n o b ex = rowP T n o b ex := by
  by_cases c : o ≤ n ∧ allU U o n
  · unfold rowP
    rw [if_pos c, if_pos ⟨c.1, (allU_congr h).mp c.2⟩, rowM_congr hn ⟨ho, c.1⟩ h]
  · rw [rowP_no c, rowP_no (fun q => c ⟨q.1, (allU_congr h).mpr q.2⟩)]
theorem rests_eqOn {v u c : Int → Int} {o sh n : Int} (ho : 0 ≤ o) (h : eqOn v u 0 n) : eqOn (rests v c o sh) (rests u c o sh) o n := by
  intro i h1 h2
  have key : ∀ k : Nat, (k : Int) ≤ i → fsum c v i k = fsum c u i k := by
    intro k
    induction k with
    | zero => intro _; rfl
    | succ k ih =>
      intro hk
      show fsum c v i k + c k * v (i - 1 - k) = fsum c u i k + c k * u (i - 1 - k)
      rw [ih (by omega), h (i - 1 - k) (by omega) (by omega)]
  unfold rests ft
  rw [h i (by omega) h2, key o.toNat (by omega)]
theorem kO_nn {oo kind : Int} (hoo : 0 ≤ oo) (hk : 2 ≤ kind) : 0 ≤ kO oo kind := by unfold kO; split <;> omega
theorem kU_eqOn {v u oc : Int → Int} {oo os kind n : Int} (hoo : 0 ≤ oo) (hk : 2 ≤ kind) (h : eqOn v u 0 n) : eqOn (kU v oo os oc kind) (kU u oo os oc kind) (kO oo kind) n := by
  unfold kU kO
  by_cases c : kind = 7
  · rw [if_pos c, if_pos c, if_pos c]; exact rests_eqOn hoo h
  · rw [if_neg c, if_neg c, if_neg c]; exact rests_eqOn (by omega) h
theorem alk_congr {v u : Int → Int} : ∀ n : Nat, eqOn v u 0 n → alk v n = alk u n
  | 0, _ => rfl
  | n + 1, h => by
    show (alk v n && decide (v n = v 0)) = (alk u n && decide (u n = u 0))
    rw [alk_congr n (fun j h1 h2 => h j h1 (by omega)), h n (by omega) (by omega), h 0 (by omega) (by omega)]
theorem price_congr {v u oc : Int → Int} {n b oo os kind : Int} (hn : 1 ≤ n) (hoo : 0 ≤ oo) (hk : 0 ≤ kind) (h : eqOn v u 0 n) : price v n b oo os oc kind = price u n b oo os oc kind := by
  unfold price
  rw [alk_congr n.toNat (fun j h1 h2 => h j h1 (by omega))]
  by_cases c0 : kind = 0
  · rw [if_pos c0, if_pos c0]
  · rw [if_neg c0, if_neg c0]
    by_cases c1 : kind = 1
    · rw [if_pos c1, if_pos c1]
    · rw [if_neg c1, if_neg c1, rowP_congr hn (kO_nn hoo (by omega)) (kU_eqOn hoo (by omega) h)]
theorem bK_congr {f g : Nat → Int} : ∀ m : Nat, (∀ q : Nat, q ≤ m → f q = g q) → bK f m = bK g m
  | 0, h => by show (f 0, (0 : Int)) = (g 0, 0); rw [h 0 (Nat.le_refl _)]
  | m + 1, h => by
    show (if f (m + 1) ≠ -1 ∧ ((bK f m).1 = -1 ∨ f (m + 1) < (bK f m).1) then (f (m + 1), (m : Int) + 1) else bK f m) = (if g (m + 1) ≠ -1 ∧ ((bK g m).1 = -1 ∨ g (m + 1) < (bK g m).1) then (g (m + 1), (m : Int) + 1) else bK g m)
    rw [h (m + 1) (Nat.le_refl _), bK_congr m (fun q hq => h q (by omega))]
theorem bK_price (pr : Nat → Int) : ∀ m : Nat, (bK pr m).1 = pr (bK pr m).2.toNat ∧ 0 ≤ (bK pr m).2
  | 0 => ⟨rfl, Int.le_refl _⟩
  | m + 1 => by
    have ih := bK_price pr m
    show (if pr (m + 1) ≠ -1 ∧ ((bK pr m).1 = -1 ∨ pr (m + 1) < (bK pr m).1) then (pr (m + 1), (m : Int) + 1) else bK pr m).1 = pr (if pr (m + 1) ≠ -1 ∧ ((bK pr m).1 = -1 ∨ pr (m + 1) < (bK pr m).1) then (pr (m + 1), (m : Int) + 1) else bK pr m).2.toNat ∧ 0 ≤ (if pr (m + 1) ≠ -1 ∧ ((bK pr m).1 = -1 ∨ pr (m + 1) < (bK pr m).1) then (pr (m + 1), (m : Int) + 1) else bK pr m).2
    split
    · exact ⟨by show pr (m + 1) = pr ((m : Int) + 1).toNat; rw [show ((m : Int) + 1).toNat = m + 1 by omega], by show 0 ≤ (m : Int) + 1; omega⟩
    · exact ih
/-- a ROW that may be: its order is within n, its RESTS have room -/
theorem price_may {v oc : Int → Int} {n b oo os kind : Int} (hk : 2 ≤ kind) (h : price v n b oo os oc kind ≠ -1) : (kO oo kind ≤ n ∧ allU (kU v oo os oc kind) (kO oo kind) n) ∧ (kind = 7 → oo ≠ 0) ∧ price v n b oo os oc kind = 7 + kO oo kind * b + (if kind = 7 then 6 + oo * 10 else 0) + (pMin (lvB (kU v oo os oc kind) n (kO oo kind)) (finF n (kO oo kind)).toNat).1 := by
  unfold price at h ⊢
  rw [if_neg (by omega), if_neg (by omega)] at h ⊢
  by_cases c : kind = 7 ∧ oo = 0
  · rw [if_pos c] at h; exact absurd rfl h
  · rw [if_neg c] at h ⊢
    by_cases d : kO oo kind ≤ n ∧ allU (kU v oo os oc kind) (kO oo kind) n
    · refine ⟨d, fun e q => c ⟨e, q⟩, ?_⟩
      unfold rowP
      rw [if_pos d]
    · rw [rowP_no d] at h; exact absurd rfl h
theorem told_congr {v u oc K X : Int → Int} {n b oo os kind p : Int} (hn : 1 ≤ n) (hoo : 0 ≤ oo) (h : eqOn v u 0 n) (hp : price v n b oo os oc kind ≠ -1) (ht : rowTold v n oo os oc kind p K X) : rowTold u n oo os oc kind p K X := by
  refine ⟨ht.1, fun hk => ?_⟩
  obtain ⟨a, b', c⟩ := ht.2 hk
  have hm := (price_may hk hp).1
  have hU := kU_eqOn (oc := oc) (os := os) hoo hk h
  have hO := kO_nn hoo hk
  refine ⟨?_, b', fun j h1 h2 => ?_⟩
  · rw [a]; unfold rowPp; rw [rowM_congr hn ⟨hO, hm.1⟩ hU]
  · have hF := pMin_FM (lvB (kU v oo os oc kind) n (kO oo kind)) (finF n (kO oo kind)).toNat
    have hf0 := (finF_is n (kO oo kind)).1
    have hpf : p ≤ finF n (kO oo kind) := by
      have := hF.2.1
      unfold rowPp at a
      omega
    have hf := fin_facts (p := p) hn ⟨hO, hm.1⟩ (finF_is n (kO oo kind)) ⟨b'.1, hpf⟩
    have r := prange ⟨hO, hf.1.1⟩ hf.1.2.1 (j := j) ⟨h1, h2⟩
    rw [← pS_congr (U := kU v oo os oc kind) (fun i q1 q2 => hU i (by omega) (by omega))]
    exact c j h1 h2
theorem rowIs_congr {v u oc K X : Int → Int} {n b oo os kd bits p : Int} (hn : 1 ≤ n) (hoo : 0 ≤ oo) (h : eqOn v u 0 n) (hr : rowIs v n b oo os oc kd bits p K X) : rowIs u n b oo os oc kd bits p K X := by
  obtain ⟨a1, a2, a3, a4, a5, a6⟩ := hr
  have e : bK (prF v n b oo os oc) 7 = bK (prF u n b oo os oc) 7 := bK_congr 7 (fun q _ => by unfold prF; exact price_congr hn hoo (by omega) h)
  have hb := bK_price (prF v n b oo os oc) 7
  have hp : price v n b oo os oc kd ≠ -1 := by
    have h1 := hb.1
    unfold prF at h1
    rw [show (((bK (fun q : Nat => price v n b oo os oc q) 7).2.toNat : Nat) : Int) = kd by unfold prF at a2 hb; omega] at h1
    unfold prF at a1
    rw [← h1, ← a1]
    exact a3
  exact ⟨by rw [← e]; exact a1, by rw [← e]; exact a2, a3, a4, a5, told_congr (b := b) hn hoo h hp a6⟩
theorem isW_uni {al b w1 w2 : Int} (h1 : isW al b w1) (h2 : isW al b w2) : w1 = w2 := by
  by_cases c : al = 0
  · rw [h1.1 c, h2.1 c]
  · have key : ∀ x y : Int, isW al b x → isW al b y → ¬ x < y := by
      intro x y hx hy hlt
      obtain ⟨x1, x2, x3, x4, x5⟩ := hx.2 c
      obtain ⟨y1, y2, y3, y4, y5⟩ := hy.2 c
      have hd : (2 : Int) ^ (x.toNat + 1) ∣ al := Int.dvd_trans (zpow_dvd (by omega)) (Int.dvd_of_emod_eq_zero y4)
      obtain ⟨k, hk⟩ := hd
      have : al / 2 ^ x.toNat = 2 * k := by
        rw [hk, Int.pow_succ, Int.mul_assoc, Int.mul_ediv_cancel_left _ (by have := pw_pos x; omega)]
      omega
    have a := key w1 w2 h1 h2
    have b' := key w2 w1 h2 h1
    omega
