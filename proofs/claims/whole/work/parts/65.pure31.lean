theorem isF_copy {F : Int × FB} {fa n ch tn sb kd0 kd1 bh : Int} {e0 e1 d0 d1 : Int → Int} (h : isF F fa n ch tn sb kd0 kd1 bh e0 e1) (h0 : fa = 0 → eqOn d0 e0 0 n ∧ (ch = 2 → eqOn d1 e1 0 n)) : isF F fa n ch tn sb kd0 kd1 bh d0 d1 := by
  obtain ⟨a, b⟩ := h
  refine ⟨a, fun z => ?_⟩
  obtain ⟨b1, b2, b3, b4, b5, b6, b7, b8, b9⟩ := b z
  obtain ⟨c0, c1⟩ := h0 z
  exact ⟨b1, b2, b3, b4, b5, b6, b7, fun j x y => (c0 j x y).trans (b8 j x y), fun q j x y => (c1 q j x y).trans (b9 q j x y)⟩
