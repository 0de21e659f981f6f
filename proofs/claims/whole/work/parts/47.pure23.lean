theorem form_copy {f oc K X K2 X2 : Int → Int} {n rb oo os kd ws b p : Int} (h : formOf f n rb oo os oc kd ws b p K X) (h1 : ∀ j, 0 ≤ j → j < 16 → K2 j = K j) (h2 : ∀ j, 0 ≤ j → j < 16 → X2 j = X j) : formOf f n rb oo os oc kd ws b p K2 X2 :=
  ⟨h.1, h.2.1, h.2.2.1, h.2.2.2.1, h.2.2.2.2.1, h.2.2.2.2.2.1, h.2.2.2.2.2.2.1, told_copy h.2.2.2.2.2.2.2 h1 h2⟩
theorem form_p {f oc K X : Int → Int} {n rb oo os kd ws b p : Int} (h : formOf f n rb oo os oc kd ws b p K X) : -1 ≤ p ∧ p ≤ 4 := by
  have hk := h.2.2.2.2.2.2.1
  have ht := h.2.2.2.2.2.2.2
  by_cases c : kd < 2
  · have := ht.1 c; omega
  · have := (ht.2 (by omega)).2.1; omega
def pkL (f0 f1 : Int → Int) (n ch sb oo os : Int) (oc : Int → Int) (tn kd1 ws1 p1 : Int) (K1 X1 : Int → Int) (kd2 ws2 p2 : Int) (K2 X2 : Int → Int) : List Int :=
  hdB n ch tn sb ++ rowBF (selR f0 f1 (zFirst tn.toNat)) n (rbJ sb (zFirst tn.toNat)) oo os oc kd1 ws1 p1 K1 X1 ++ (if ch = 2 then rowBF (selR f0 f1 (zSecond tn.toNat)) n (rbJ sb (zSecond tn.toNat)) oo os oc kd2 ws2 p2 K2 X2 else [])
theorem pick_one {f g oc K X K2 X2 : Int → Int} {n rb oo os kd ws b p kd2 ws2 b2 p2 : Int} (hn : 1 ≤ n ∧ n ≤ 400) (hoo : 0 ≤ oo ∧ oo ≤ 4) (h : formOf f n rb oo os oc kd ws b p K X) (hf : eqOn f g 0 n) (hs : kd2 = kd ∧ ws2 = ws ∧ b2 = b ∧ p2 = p ∧ (∀ j, 0 ≤ j → j < 16 → K2 j = K j) ∧ (∀ j, 0 ≤ j → j < 16 → X2 j = X j)) :
    formOf g n rb oo os oc kd2 ws2 b2 p2 K2 X2 ∧ b2 = b ∧ rowBF f n rb oo os oc kd ws p K X = rowBF g n rb oo os oc kd2 ws2 p2 K2 X2 := by
  obtain ⟨e1, e2, e3, e4, e5, e6⟩ := hs
  subst e1; subst e2; subst e3; subst e4
  have h2 := form_cg hn.1 hoo.1 hf (fun _ => rfl) (fun _ _ _ => rfl) (form_copy h e5 e6)
  exact ⟨h2, rfl, (form_two hn hoo hf (fun _ => rfl) (fun _ _ _ => rfl) h h2).2⟩
theorem pk_pick {f0 f1 F2 F3 oc K0 X0 K1 X1 K2 X2 K3 X3 K X : Int → Int} {n sb oo os kd0 ws0 b0 p0 kd1 ws1 b1 p1 kd2 ws2 b2 p2 kd3 ws3 b3 p3 kd ws b p j : Int} (hn : 1 ≤ n ∧ n ≤ 400) (hoo : 0 ≤ oo ∧ oo ≤ 4) (hj : 0 ≤ j ∧ j ≤ 3) (hm : isMix f0 f1 F2 F3 n)
    (q0 : formOf f0 n sb oo os oc kd0 ws0 b0 p0 K0 X0) (q1 : formOf f1 n sb oo os oc kd1 ws1 b1 p1 K1 X1) (q2 : formOf F2 n (sb + 1) oo os oc kd2 ws2 b2 p2 K2 X2) (q3 : formOf F3 n sb oo os oc kd3 ws3 b3 p3 K3 X3)
    (h : pk4 (kd = kd0 ∧ ws = ws0 ∧ b = b0 ∧ p = p0 ∧ (∀ j, 0 ≤ j → j < 16 → K j = K0 j) ∧ (∀ j, 0 ≤ j → j < 16 → X j = X0 j)) (kd = kd1 ∧ ws = ws1 ∧ b = b1 ∧ p = p1 ∧ (∀ j, 0 ≤ j → j < 16 → K j = K1 j) ∧ (∀ j, 0 ≤ j → j < 16 → X j = X1 j)) (kd = kd2 ∧ ws = ws2 ∧ b = b2 ∧ p = p2 ∧ (∀ j, 0 ≤ j → j < 16 → K j = K2 j) ∧ (∀ j, 0 ≤ j → j < 16 → X j = X2 j)) (kd = kd3 ∧ ws = ws3 ∧ b = b3 ∧ p = p3 ∧ (∀ j, 0 ≤ j → j < 16 → K j = K3 j) ∧ (∀ j, 0 ≤ j → j < 16 → X j = X3 j)) j) :
    formOf (selR f0 f1 j) n (rbJ sb j) oo os oc kd ws b p K X ∧ b = fb4 b0 b1 b2 b3 j ∧ rw4 (rowB (sv f0 ws0) n (sb - ws0) ws0 oo os oc kd0 p0 K0 X0) (rowB (sv f1 ws1) n (sb - ws1) ws1 oo os oc kd1 p1 K1 X1) (rowB (sv F2 ws2) n (sb + 1 - ws2) ws2 oo os oc kd2 p2 K2 X2) (rowB (sv F3 ws3) n (sb - ws3) ws3 oo os oc kd3 p3 K3 X3) j = rowBF (selR f0 f1 j) n (rbJ sb j) oo os oc kd ws p K X := by
  rcases (show j = 0 ∨ j = 1 ∨ j = 2 ∨ j = 3 by omega) with e | e | e | e <;> subst e
  · exact pick_one hn hoo q0 (fun _ _ _ => rfl) h
  · exact pick_one hn hoo q1 (fun _ _ _ => rfl) h
  · exact pick_one hn hoo q2 (fun i h1 h2 => (hm i h1 h2).1) h
  · exact pick_one hn hoo q3 (fun i h1 h2 => (hm i h1 h2).2) h
theorem pk_tot2 {f0 f1 F2 F3 oc K0 X0 K1 X1 K2 X2 K3 X3 : Int → Int} {n sb oo os kd0 ws0 b0 p0 kd1 ws1 b1 p1 kd2 ws2 b2 p2 kd3 ws3 b3 p3 tn T : Int} (hn : 1 ≤ n ∧ n ≤ 400) (hoo : 0 ≤ oo ∧ oo ≤ 4) (hm : isMix f0 f1 F2 F3 n)
    (q0 : formOf f0 n sb oo os oc kd0 ws0 b0 p0 K0 X0) (q1 : formOf f1 n sb oo os oc kd1 ws1 b1 p1 K1 X1) (q2 : formOf F2 n (sb + 1) oo os oc kd2 ws2 b2 p2 K2 X2) (q3 : formOf F3 n sb oo os oc kd3 ws3 b3 p3 K3 X3)
    (h1 : T = (pMin (tSum (fb4 b0 b1 b2 b3)) 3).1) (h2 : tn = (pMin (tSum (fb4 b0 b1 b2 b3)) 3).2) : pkTot f0 f1 n 2 sb oo os oc tn T := by
  refine Or.inr ⟨rfl, fb4 b0 b1 b2 b3, fun k k1 k2 => ?_, h2, h1⟩
  rcases (show k = 0 ∨ k = 1 ∨ k = 2 ∨ k = 3 by omega) with e | e | e | e <;> subst e
  · exact ⟨kd0, ws0, p0, K0, X0, q0⟩
  · exact ⟨kd1, ws1, p1, K1, X1, q1⟩
  · exact ⟨kd2, ws2, p2, K2, X2, form_cg hn.1 hoo.1 (fun i h1 h2 => (hm i h1 h2).1) (fun _ => rfl) (fun _ _ _ => rfl) q2⟩
  · exact ⟨kd3, ws3, p3, K3, X3, form_cg hn.1 hoo.1 (fun i h1 h2 => (hm i h1 h2).2) (fun _ => rfl) (fun _ _ _ => rfl) q3⟩
theorem pMin_at (f : Nat → Int) (m : Nat) : (pMin f m).1 = f (pMin f m).2.toNat := (pMin_FM f m).2.2.1
/-- price(): -3 where a kind may not be -/
def prA (f : Int → Int) (n sb oo os : Int) (oc : Int → Int) (kind r : Int) : Prop := ∃ ws, isW (orF f n.toNat) sb ws ∧ ((price (sv f ws) n (sb - ws) oo os oc kind = -1 ∧ r = -3) ∨ (¬ price (sv f ws) n (sb - ws) oo os oc kind = -1 ∧ r = price (sv f ws) n (sb - ws) oo os oc kind))
theorem prA_uni {f g oc od : Int → Int} {n sb oo os ot kind r s : Int} (hn : 1 ≤ n) (hoo : 0 ≤ oo) (hk : 0 ≤ kind) (hf : eqOn f g 0 n) (h0 : 0 < oo → os = ot) (hc : eqOn oc od 0 oo) (h : prA f n sb oo os oc kind r) (h2 : prA g n sb oo ot od kind s) : r = s := by
  obtain ⟨w, a1, a2⟩ := h
  obtain ⟨w2, b1, b2⟩ := h2
  rw [← orF_cg n.toNat (fun j h1 h2 => hf j h1 (by omega))] at b1
  have e := isW_uni a1 b1
  subst e
  have z : price (sv f w) n (sb - w) oo os oc kind = price (sv g w) n (sb - w) oo ot od kind := by
    rw [price_oc hoo h0 hc]
    exact price_congr hn hoo hk (fun j h1 h2 => by show f j / _ = g j / _; rw [hf j h1 h2])
  rw [← z] at b2
  omega
theorem frame_1 {f0 f1 oc K X K2 X2 B B2 L Y : Int → Int} (n : Int) {sb oo os kd ws b p len kd2 ws2 p2 : Int} (hoo : 0 ≤ oo ∧ oo ≤ 4) (hn : 1 ≤ n ∧ n ≤ 400) (h : formOf f0 n sb oo os oc kd ws b p K X) (hc : (∀ j, 0 ≤ j → j < 16 → K2 j = K j) ∧ (∀ j, 0 ≤ j → j < 16 → X2 j = X j)) (hf : frameAt B len (hdB n 1 0 sb ++ rowB (sv f0 ws) n (sb - ws) ws oo os oc kd p K X) B2) : frameAt B len (pkL f0 f1 n 1 sb oo os oc 0 kd ws p K2 X2 kd2 ws2 p2 L Y) B2 := by
  have z := (pick_one hn hoo h (fun _ _ _ => rfl) ⟨rfl, rfl, rfl, rfl, hc⟩).2.2
  unfold pkL
  rw [if_neg (by decide), List.append_nil]
  show frameAt B len (hdB n 1 0 sb ++ rowBF f0 n sb oo os oc kd ws p K2 X2) B2
  rw [← z]
  exact hf
