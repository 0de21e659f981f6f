theorem rd_ge {B : Int → Int} {len fa pos bits r fa2 pos2 v : Int} (h : rdRel B len fa pos bits r fa2 pos2 v) (hb : 0 ≤ bits) : pos ≤ pos2 := by
  by_cases c : fa = 0 ∧ pos + bits ≤ 8 * len
  · have := (h.1 c).2.1; omega
  · have := (h.2 c).2.1; omega
theorem rd_to {B : Int → Int} {len fa pos bits r fa2 pos2 v : Int} (h : rdRel B len fa pos bits r fa2 pos2 v) (h0 : fa2 = 0) : pos2 = pos + bits ∧ r = v := by
  by_cases c : fa = 0 ∧ pos + bits ≤ 8 * len
  · exact (h.1 c).2
  · have h1 := (h.2 c).1
    split at h1 <;> omega
theorem rd_al {B : Int → Int} {len fa pos r fa2 pos2 v : Int} (h : rdRel B len fa pos (-pos % 8) r fa2 pos2 v) (h0 : fa2 = 0) : pos2 % 8 = 0 := by
  have := (rd_to h h0).1
  omega
theorem num_in8 (B : Int → Int) (q b : Int) (h : b ≤ 8) : 0 ≤ num B q b.toNat ∧ num B q b.toNat < 256 := by
  have h1 := num_in B q b.toNat
  have h2 := pw_le (k := b) 8 h
  have e : (2 : Int) ^ 8 = 256 := by decide
  omega
theorem ut_end {n ch tn : Int} {f0 f1 u0 u1 e0 e1 : Int → Int} (hct : ch = 1 → tn = 0) (hch : ch = 1 ∨ ch = 2) (he0 : eqOn f0 u0 0 n) (he1 : ch = 2 → eqOn f1 u1 0 n) (h : ∀ j, 0 ≤ j → j < n → e0 j = utA tn (f0 j) (f1 j) ∧ e1 j = utB tn (f0 j) (f1 j)) : eqOn e0 (fun j => utA tn (u0 j) (u1 j)) 0 n ∧ (ch = 2 → eqOn e1 (fun j => utB tn (u0 j) (u1 j)) 0 n) := by
  refine ⟨fun j h1 h2 => ?_, fun q j h1 h2 => ?_⟩
  · rw [(h j h1 h2).1, he0 j h1 h2]
    by_cases t : tn = 0
    · show utA tn (u0 j) (f1 j) = utA tn (u0 j) (u1 j)
      unfold utA; rw [if_pos t, if_pos t]
    · rw [he1 (by omega) j h1 h2]
  · rw [(h j h1 h2).2, he0 j h1 h2, he1 q j h1 h2]
theorem fit_end {n ch tn sb : Int} {f0 f1 u0 u1 e0 e1 : Int → Int} (hct : ch = 1 → tn = 0) (hch : ch = 1 ∨ ch = 2) (_he0 : eqOn f0 u0 0 n) (_he1 : ch = 2 → eqOn f1 u1 0 n) (hi0 : fitOn f0 (rbF tn sb) n) (hi1 : ch = 2 → fitOn f1 (rbS tn sb) n) (hk : tn = 0 ∨ uok tn sb f0 f1 n.toNat = true) (h : ∀ j, 0 ≤ j → j < n → e0 j = utA tn (f0 j) (f1 j) ∧ e1 j = utB tn (f0 j) (f1 j)) : fitOn e0 sb n ∧ (ch = 2 → fitOn e1 sb n) := by
  by_cases t : tn = 0
  · subst t
    refine ⟨fun j h1 h2 => ?_, fun q j h1 h2 => ?_⟩
    · rw [(h j h1 h2).1]; exact hi0 j h1 h2
    · rw [(h j h1 h2).2]; exact hi1 q j h1 h2
  · rcases hk with q | q
    · exact absurd q t
    · refine ⟨fun j h1 h2 => ?_, fun _ j h1 h2 => ?_⟩
      · rw [(h j h1 h2).1]; exact (uok_all n.toNat q j h1 (by omega)).1
      · rw [(h j h1 h2).2]; exact (uok_all n.toNat q j h1 (by omega)).2
theorem zF_in (t : Int) (h : 0 ≤ t ∧ t ≤ 3) : 0 ≤ zFirst t.toNat ∧ zFirst t.toNat ≤ 3 := by
  rcases (show t = 0 ∨ t = 1 ∨ t = 2 ∨ t = 3 by omega) with e | e | e | e <;> rw [e] <;> decide
theorem zS_in (t : Int) (h : 0 ≤ t ∧ t ≤ 3) : 0 ≤ zSecond t.toNat ∧ zSecond t.toNat ≤ 3 := by
  rcases (show t = 0 ∨ t = 1 ∨ t = 2 ∨ t = 3 by omega) with e | e | e | e <;> rw [e] <;> decide
