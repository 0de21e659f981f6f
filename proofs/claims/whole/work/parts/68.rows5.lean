theorem two_rows (cA : ClassId) (h : Nat) : mq_b cA h = vp_cell cA (2, .inr (.inr (.inr (.inr (rf2 (h + 1) (h + 2)))))) := by
  rw [vp_cell_q]
  rfl
section JRows5
variable {x : XX} {cc : ByteArray} {own : String} {fr lo mc ms nL ck sk pc : Nat} {lv : List (Nat × Value)} {st : List Value} {ws : va_W}
theorem j_mna (B : JB x cc own fr lo mc ms nL) (hA : gA x.s) {i K : Nat} {n k : Int} (wl : Cond.classLink own i "[[I" ∈ TB) (wa : Cond.arrayClass .int ∈ TB) (hn : iI n = iI 2) (hk : iI k = iI (K : Int)) (hK : K < 100000) (d : decode cc pc = .ok (.multianewarray i 2, 4)) (hr : ck + 3 ≤ mc ∧ sk + (2 + 2 * K) ≤ ms)
    (kk : ∀ q r0 r1 : Nat, JW x (ck + 3) (sk + (2 + 2 * K)) (pc + 4) lv (.ref q :: st) (ws ++ [(q, aG x.g 2 (rf2 r0 r1)), (r0, aI x.g K (fun _ => 0)), (r1, aI x.g K (fun _ => 0))])) : JW x ck sk pc lv (.int (iI k) :: .int (iI n) :: st) ws := by
  intro H locs ls hP hD hS hl
  obtain ⟨b1, b2, b3, b4⟩ := B.2.2.2.2.2.2.2.2.2.1
  have hc : (iI k).toNatClampNeg = K := by rw [hk, iI_clamp (by omega) (by omega)]; omega
  have hneg : ¬ iI k < 0 := by rw [hk]; exact fun q => by have z := (iI_lt (a := (K : Int)) (b := 0) (by omega) (by decide)).mp q; omega
  have h2 : iI n = 2 := by rw [hn]; rfl
  intro T hT X
  obtain ⟨vm₁, cA, comp, fA, fC, X', step⟩ := mq_step X B.1 B.2.2.2.1 (B.2.2.2.2.1 _ wl) hA.2 (B.2.2.2.2.1 _ wa) (g := F0 x.m pc ls (.int (iI k) :: .int (iI n) :: st)) rfl (by rw [B.2.1]; exact d) (by rw [h2]) hneg hc hK (by omega) (by omega)
  have e2 : cA = x.g.2.1 2 := Option.some.inj (fA.symm.trans (B.2.2.2.2.2.1.2 2 _ rfl).2)
  have e3 : comp = x.g.2.1 0 := Option.some.inj (fC.symm.trans (B.2.2.2.2.2.1.2 0 _ rfl).2)
  subst e2; subst e3
  have hTh : (T.setVm vm₁).heap = H := hT
  have hh := mq_heapB (T.setVm vm₁) (x.g.2.1 2) (x.g.2.1 0) K
  rw [hTh, two_rows] at hh
  generalize hF : mq_B (T.setVm vm₁) (x.g.2.1 2) (x.g.2.1 0) K = F at X' step hh
  have f1 : F.heap.size = H.size + 3 := by rw [hh]; simp
  have hold : ∀ q : Nat, q < H.size → F.heap[q]? = H[q]? := fun q hq => by
    rw [hh, Array.getElem?_push, Array.getElem?_push, Array.getElem?_push, Array.size_push, Array.size_push, if_neg (by omega), if_neg (by omega), if_neg (by omega)]
  have f2 : F.heap[H.size]? = some (vp_cell (x.g.2.1 2) (2, .inr (.inr (.inr (.inr (rf2 (H.size + 1) (H.size + 2))))))) := by
    rw [hh, Array.getElem?_push, Array.getElem?_push, Array.getElem?_push, Array.size_push, Array.size_push, if_neg (by omega), if_neg (by omega), if_pos rfl]
  have hrow : ∀ j : Nat, j < 2 → F.heap[H.size + 1 + j]? = some (mq_r (x.g.2.1 0) K) := fun j hj => by
    rw [hh, Array.getElem?_push, Array.getElem?_push, Array.size_push, Array.size_push]
    rcases (show j = 0 ∨ j = 1 by omega) with e | e
    · subst e; rw [if_neg (by omega), if_pos (by omega)]
    · subst e; rw [if_pos (by omega)]
  have hin : ∀ c : ClassId, mq_r c K = vp_cell c (K, .inl (fun _ : Nat => iI 0)) := fun c => (arrV_new c K _)
  have hP0 : va_P x.g.1 vwCl ws F.heap := hP.kept (fun k9 z hz => hold z.1 ((hP k9 z hz).lt))
  have hP1 : va_P x.g.1 vwCl (ws ++ [(H.size, aG x.g 2 (rf2 (H.size + 1) (H.size + 2))), (H.size + 1, aI x.g K (fun _ => 0)), (H.size + 2, aI x.g K (fun _ => 0))]) F.heap := hP0.app (fun k9 z hz => by
    have h0 : k9 < 3 := (List.getElem?_eq_some_iff.mp hz).1
    rcases (show k9 = 0 ∨ k9 = 1 ∨ k9 = 2 by omega) with e | e | e
    · subst e; cases hz; exact f2
    · subst e; cases hz
      show F.heap[H.size + 1]? = some (vp_cell _ _)
      rw [← hin]; exact hrow 0 (by decide)
    · subst e; cases hz
      show F.heap[H.size + 2]? = some (vp_cell _ _)
      rw [← hin]; exact hrow 1 (by decide))
  have hlow : ∀ (k9 : Nat) (z : Nat × va_E), ws[k9]? = some z → z.1 < H.size := fun k9 z hz => (hP k9 z hz).lt
  have hnew : ∀ (k9 : Nat) (z : Nat × va_E), ([(H.size, aG x.g 2 (rf2 (H.size + 1) (H.size + 2))), (H.size + 1, aI x.g K (fun _ => 0)), (H.size + 2, aI x.g K (fun _ => 0))] : va_W)[k9]? = some z → z.1 = H.size + k9 := fun k9 z hz => by
    have h0 : k9 < 3 := (List.getElem?_eq_some_iff.mp hz).1
    rcases (show k9 = 0 ∨ k9 = 1 ∨ k9 = 2 by omega) with e | e | e <;> (subst e; cases hz; rfl)
  have hD1 : va_D x.A (ws ++ [(H.size, aG x.g 2 (rf2 (H.size + 1) (H.size + 2))), (H.size + 1, aI x.g K (fun _ => 0)), (H.size + 2, aI x.g K (fun _ => 0))]) := by
    refine ⟨fun i j y z hi hj hyz => ?_, fun k9 z hz => ?_⟩
    · by_cases h1 : i < ws.length <;> by_cases h2 : j < ws.length
      · rw [List.getElem?_append_left h1] at hi
        rw [List.getElem?_append_left h2] at hj
        exact hD.1 i j y z hi hj hyz
      · rw [List.getElem?_append_left h1] at hi
        rw [List.getElem?_append_right (by omega)] at hj
        have := hlow _ _ hi
        have := hnew _ _ hj
        omega
      · rw [List.getElem?_append_right (by omega)] at hi
        rw [List.getElem?_append_left h2] at hj
        have := hlow _ _ hj
        have := hnew _ _ hi
        omega
      · rw [List.getElem?_append_right (by omega)] at hi hj
        have := hnew _ _ hi
        have := hnew _ _ hj
        omega
    · by_cases h1 : k9 < ws.length
      · rw [List.getElem?_append_left h1] at hz
        exact hD.2 k9 z hz
      · rw [List.getElem?_append_right (by omega)] at hz
        have := hnew _ _ hz
        exact B.2.2.2.2.2.2.2.2.1 _ (by have := hS.1; omega)
  obtain ⟨t, a1, c1⟩ := kk H.size (H.size + 1) (H.size + 2) F.heap locs ls hP1 hD1 ⟨by rw [f1]; have := hS.1; omega, fun q h1 h2 => (hold q (Nat.lt_of_lt_of_le h1 hS.1)).trans (hS.2.1 q h1 h2), hS.2.2⟩ hl F rfl X'
  refine ⟨t, step t ?_, c1⟩
  have e : T.heap.size = H.size := by rw [hT]
  rw [e]
  exact a1
end JRows5
