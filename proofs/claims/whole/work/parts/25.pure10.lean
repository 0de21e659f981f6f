/-! ===== a foretold ROW's bits ===== -/
def foreB (v U : Int → Int) (n o b p : Int) (K X : Int → Int) : List Int := valsB v b o.toNat ++ nb p 3 3 ++ partsB U o (n / 2 ^ p.toNat) K X (2 ^ p.toNat)
def headB (oo os : Int) (oc : Int → Int) : List Int := nb (oo - 1) 2 2 ++ nb os 4 4 ++ cofB oc oo.toNat
def kB (k x : Int) : List Int := nb k 4 4 ++ (if k = 15 then nb x 5 5 else [])
theorem kB_15 {k x : Int} (h : k = 15) : kB k x = nb k 4 4 ++ nb x 5 5 := by unfold kB; rw [if_pos h]
theorem kB_k {k x : Int} (h : ¬ k = 15) : kB k x = nb k 4 4 := by unfold kB; rw [if_neg h, List.append_nil]
theorem partsB_next {U : Int → Int} {o each j : Int} {K X : Int → Int} (h : 0 ≤ j) : partsB U o each K X (j + 1).toNat = partsB U o each K X j.toNat ++ (kB (K j) (X j) ++ restsB U (K j) (X j) (pst o each j) (pln o each j).toNat) := by
  rw [show (j + 1).toNat = j.toNat + 1 by omega]
  show partsB U o each K X j.toNat ++ partB U (K (j.toNat : Int)) (X (j.toNat : Int)) (pst o each (j.toNat : Int)) (pln o each (j.toNat : Int)).toNat = _
  rw [show (j.toNat : Int) = j by omega]
  rfl
theorem partsB_le {U : Int → Int} {o each : Int} {K X : Int → Int} {i j : Nat} (h : i ≤ j) : (partsB U o each K X i).length ≤ (partsB U o each K X j).length := by
  induction h with
  | refl => exact Nat.le_refl _
  | step _ ih => exact Nat.le_trans ih (by show _ ≤ (partsB U o each K X _ ++ _).length; rw [List.length_append]; exact Nat.le_add_right _ _)
theorem partsB_room {U : Int → Int} {o each j c : Int} {K X : Int → Int} (h : 0 ≤ j) (hn : j < c) : (partsB U o each K X j.toNat).length + ((kB (K j) (X j)).length + (restsB U (K j) (X j) (pst o each j) (pln o each j).toNat).length) ≤ (partsB U o each K X c.toNat).length := by
  have h1 := partsB_le (U := U) (o := o) (each := each) (K := K) (X := X) (show (j + 1).toNat ≤ c.toNat by omega)
  rw [partsB_next h, List.length_append, List.length_append] at h1
  exact h1
theorem kB_len15 {k x : Int} (h : k = 15) : (kB k x).length = 9 := by rw [kB_15 h, List.length_append, nb_len, nb_len]
theorem kB_lenk {k x : Int} (h : ¬ k = 15) : (kB k x).length = 4 := by rw [kB_k h, nb_len]
def kxIn (K X : Int → Int) (c : Int) : Prop := ∀ j, 0 ≤ j → j < c → (0 ≤ K j ∧ K j ≤ 15) ∧ (K j = 15 → 0 ≤ X j ∧ X j ≤ 24)
theorem cofB_next {c : Int → Int} {j : Int} (h : 0 ≤ j) : cofB c (j + 1).toNat = cofB c j.toNat ++ nb (c j) 10 10 := by
  rw [show (j + 1).toNat = j.toNat + 1 by omega]
  show cofB c j.toNat ++ nb (c (j.toNat : Int)) 10 10 = _
  rw [show (j.toNat : Int) = j by omega]
theorem cofB_len (c : Int → Int) : ∀ k : Nat, (cofB c k).length = 10 * k
  | 0 => rfl
  | k + 1 => by
    show (cofB c k ++ nb (c k) 10 10).length = _
    rw [List.length_append, cofB_len c k, nb_len]
    omega
theorem headB_len {oo os : Int} {oc : Int → Int} (h : 0 ≤ oo) : ((headB oo os oc).length : Int) = 6 + oo * 10 := by
  unfold headB
  rw [List.length_append, List.length_append, nb_len, nb_len, cofB_len]
  omega
theorem cparts_p {p : Int} (h : 0 ≤ p) : cparts p = 2 ^ p.toNat := if_neg (by omega)
