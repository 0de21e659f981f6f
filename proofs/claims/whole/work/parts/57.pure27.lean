/-! ===== the other side's pack: the TURN ===== -/
def tInv (f : Nat → Int) (t best tn : Int) : Prop := (t = 0 ∧ best = 1000000000 ∧ tn = 0) ∨ (0 < t ∧ best + 16 = (pMin f (t - 1).toNat).1 ∧ tn = (pMin f (t - 1).toNat).2)
theorem tInv_new {f : Nat → Int} {t best tn a : Int} (ht : 0 ≤ t) (h : tInv f t best tn) (ha : a + 16 = f t.toNat) (hl : a < best) : tInv f (t + 1) a t := by
  refine Or.inr ⟨by omega, ?_⟩
  have z : pMin f t.toNat = (f t.toNat, t) := by
    refine pM_new ht ?_
    rcases h with ⟨h1, _, _⟩ | ⟨h0, h1, h2⟩
    · exact Or.inl h1
    · exact Or.inr (by omega)
  rw [show t + 1 - 1 = t by omega, z]
  exact ⟨ha, rfl⟩
theorem tInv_old {f : Nat → Int} {t best tn a : Int} (h : tInv f t best tn) (ha : a + 16 = f t.toNat) (ha9 : a < 1000000000) (hl : ¬ a < best) : tInv f (t + 1) best tn := by
  rcases h with ⟨h1, h2, _⟩ | ⟨h0, h1, h2⟩
  · omega
  · refine Or.inr ⟨by omega, ?_⟩
    rw [show t + 1 - 1 = t by omega, pM_old h0 (by omega)]
    exact ⟨h1, h2⟩
def fT (ch : Int) (bb : Int → Int) : Nat → Int := if ch = 1 then (fun _ => 16 + bb 0) else tSum bb
theorem fT_1 {ch t : Int} {bb : Int → Int} (hc : ch = 1) (ht : t = 0) : fT ch bb t.toNat = 16 + bb (zT t 0) := by
  subst hc; subst ht; rfl
theorem fT_2 {ch : Int} {bb : Int → Int} (t : Int) (hc : ch = 2) : fT ch bb t.toNat = 16 + bb (zT t 0) + bb (zT t 1) := by
  subst hc; rfl
theorem tInv_tot {f0 f1 oc bb : Int → Int} {n sb oo os ch t best tn : Int} (hc : (ch = 1 ∧ t = 1) ∨ (ch = 2 ∧ t = 4)) (h : tInv (fT ch bb) t best tn) (hf : ∀ j, (j = 0 ∨ ch = 2) → ∃ kd ws p K X, formOf (selR f0 f1 j) n (rbJ sb j) oo os oc kd ws (bb j) p K X) : pkTot f0 f1 n ch sb oo os oc tn (16 + best) ∧ (0 ≤ tn ∧ tn ≤ 3) ∧ best + 16 = fT ch bb tn.toNat ∧ (ch = 1 → tn = 0) := by
  rcases hc with ⟨e, e2⟩ | ⟨e, e2⟩
  · subst e; subst e2
    rcases h with ⟨h1, _, _⟩ | ⟨_, h1, h2⟩
    · omega
    · have g1 : best + 16 = 16 + bb 0 := h1
      have g2 : tn = 0 := h2
      subst g2
      obtain ⟨kd, ws, p, K, X, hfo⟩ := hf 0 (Or.inl rfl)
      exact ⟨Or.inl ⟨rfl, rfl, kd, ws, bb 0, p, K, X, hfo, by omega⟩, by omega, g1, fun _ => rfl⟩
  · subst e; subst e2
    rcases h with ⟨h1, _, _⟩ | ⟨_, h1, h2⟩
    · omega
    · have g1 : best + 16 = (pMin (tSum bb) 3).1 := h1
      have g2 : tn = (pMin (tSum bb) 3).2 := h2
      have g3 := pMin_FM (tSum bb) 3
      have g4 := pMin_at (tSum bb) 3
      have g5 := g3.1
      have g6 := g3.2.1
      refine ⟨Or.inr ⟨rfl, bb, fun k _ _ => hf k (Or.inr rfl), g2, by omega⟩, by omega, ?_, fun q => absurd q (by decide)⟩
      show best + 16 = tSum bb tn.toNat
      rw [g2, ← g4]; exact g1
theorem bits_bb {v oc : Int → Int} {n b oo os kd r : Int} (hn : 1 ≤ n ∧ n ≤ 400) (hb : 0 ≤ b ∧ b ≤ 17) (hoo : 0 ≤ oo ∧ oo ≤ 4) (hkd : kd = (bK (prF v n b oo os oc) 7).2) (h : isPr (price v n b oo os oc kd) r) : r = (bK (prF v n b oo os oc) 7).1 ∧ 7 ≤ r ∧ r ≤ 300000 := by
  obtain ⟨p, K, X, hr⟩ := row_ex v (oc := oc) os hn hb hoo
  have h4 := bK_in (prF v n b oo os oc) 7
  have z := (bK_price (prF v n b oo os oc) 7).1
  have e : prF v n b oo os oc (bK (prF v n b oo os oc) 7).2.toNat = price v n b oo os oc kd := by
    show price v n b oo os oc ((bK (prF v n b oo os oc) 7).2.toNat : Int) = _
    rw [show ((bK (prF v n b oo os oc) 7).2.toNat : Int) = kd by omega]
  rw [e] at z
  have hne : price v n b oo os oc kd ≠ -1 := by rw [← z]; exact hr.2.2.1
  have hi := price_in hn hb hoo (by omega) hne
  rcases h with ⟨q, _⟩ | ⟨_, q⟩
  · exact absurd q hne
  · rw [z]; exact ⟨q, by omega, by omega⟩
theorem bb_in {f0 f1 oc : Int → Int} {n sb oo os j : Int} (hn : 1 ≤ n ∧ n ≤ 400) (hsb : 1 ≤ sb ∧ sb ≤ 16) (hoo : 0 ≤ oo ∧ oo ≤ 4) (h : ∃ kd ws p K X, formOf (selR f0 f1 j) n (rbJ sb j) oo os oc kd ws (bbF f0 f1 n sb oo os oc j) p K X) : 7 ≤ bbF f0 f1 n sb oo os oc j ∧ bbF f0 f1 n sb oo os oc j ≤ 300000 := by
  obtain ⟨kd, ws, p, K, X, hf⟩ := h
  exact form_in hn hoo (rbJ_in hsb).1 hf
