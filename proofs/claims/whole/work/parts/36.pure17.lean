theorem rd_st {B : Int → Int} {len fa pos bits r fa2 pos2 v : Int} (h : rdRel B len fa pos bits r fa2 pos2 v) (h0 : fa2 = 0) : fa = 0 := by
  by_cases c : fa = 0 ∧ pos + bits ≤ 8 * len
  · exact c.1
  · have h1 := (h.2 c).1
    split at h1
    · omega
    · omega
theorem cf_up {c : Int → Int} {i r : Int} (h : cfOk c) (hr : fit r 10) : cfOk (zup c i r) := by
  intro j h1 h2
  have e : (2 : Int) ^ ((10 : Int) - 1).toNat = 512 := by decide
  obtain ⟨a, b⟩ := hr
  rw [e] at a b
  by_cases q : j = i
  · rw [q, zup_s]; omega
  · rw [zup_n q]; exact h j h1 h2
theorem isR_st {r : RR} {fa fa2 pos : Int} {v : Int → Int} (h : isR (sR fa r) fa2 pos v) (h0 : fa2 = 0) : fa = 0 := by
  by_cases c : fa = 0
  · exact c
  · have := h.1
    unfold sR at this
    rw [if_neg c] at this
    have this : fa2 = fa := this
    omega
theorem wr1 {wr : Int} {c d : Prop} (h : (wr = 1 ∧ c) ∨ (wr = 0 ∧ d)) : (¬ wr = 0 ∧ c) ∨ (wr = 0 ∧ d) := by
  rcases h with h | h
  · exact Or.inl ⟨by omega, h.2⟩
  · exact Or.inr h
theorem wr0 {wr : Int} {c d : Prop} (h : (wr = 1 ∧ c) ∨ (wr = 0 ∧ d)) (h0 : wr = 0) : d := by
  rcases h with h | h
  · omega
  · exact h.2
theorem wrIn {wr : Int} {c d : Prop} (h : (wr = 1 ∧ c) ∨ (wr = 0 ∧ d)) : 0 ≤ wr ∧ wr ≤ 1 := by
  rcases h with h | h
  · omega
  · omega
