theorem formOf_of {f v2 oc K X : Int → Int} {n rb rb0 w oo os kd ws bits p : Int} (hrb0 : 1 ≤ rb) (hn : 1 ≤ n ∧ n ≤ 400) (hoo : 0 ≤ oo ∧ oo ≤ 4) (e : rb = rb0)
    (h : isW (orF f n.toNat) rb w ∧ (0 ≤ w ∧ w ≤ 15 ∧ w ≤ rb - 1) ∧ (∀ j, 0 ≤ j → j < n → v2 j = f j / 2 ^ w.toNat) ∧ rowIs v2 n (rb - w) oo os oc kd bits p K X ∧ ws = w) : formOf f n rb0 oo os oc kd ws bits p K X := by
  obtain ⟨a1, a2, a3, a4, a5⟩ := h
  subst e; subst a5
  exact ⟨a1, a2, rowIs_congr hn.1 hoo.1 (fun j h1 h2 => a3 j h1 h2) a4⟩
theorem form_in {f oc K X : Int → Int} {n rb oo os kd ws bits p : Int} (hn : 1 ≤ n ∧ n ≤ 400) (hoo : 0 ≤ oo ∧ oo ≤ 4) (hrb : 1 ≤ rb) (h : formOf f n rb oo os oc kd ws bits p K X) : 7 ≤ bits ∧ bits ≤ 300000 := by
  have hl := rowB_len (w := ws) hn (show 0 ≤ rb - ws by have := h.2.1; omega) hoo h.2.2
  refine ⟨?_, h.2.2.2.2.2.1⟩
  unfold rowB at hl
  rw [List.length_append, List.length_append, nb_len, nb_len] at hl
  omega
