/-! ===== the bits of a ROW ===== -/
def valsB (v : Int → Int) (b : Int) : Nat → List Int
  | 0 => []
  | i + 1 => valsB v b i ++ nb (v i) b.toNat b.toNat
def restB (u k x : Int) : List Int := if k = 15 then nb (unf u) x.toNat x.toNat else List.replicate (u / 2 ^ k.toNat).toNat 1 ++ [0] ++ nb u k.toNat k.toNat
def restsB (U : Int → Int) (k x a : Int) : Nat → List Int
  | 0 => []
  | m + 1 => restsB U k x a m ++ restB (U (a + m)) k x
def partB (U : Int → Int) (k x a : Int) (m : Nat) : List Int := nb k 4 4 ++ (if k = 15 then nb x 5 5 else []) ++ restsB U k x a m
def partsB (U : Int → Int) (o each : Int) (K X : Int → Int) : Nat → List Int
  | 0 => []
  | j + 1 => partsB U o each K X j ++ partB U (K j) (X j) (pst o each j) (pln o each j).toNat
def cofB (c : Int → Int) : Nat → List Int
  | 0 => []
  | j + 1 => cofB c j ++ nb (c j) 10 10
theorem valsB_next {v : Int → Int} {b i : Int} (h : 0 ≤ i) : valsB v b (i + 1).toNat = valsB v b i.toNat ++ nb (v i) b.toNat b.toNat := by
  rw [show (i + 1).toNat = i.toNat + 1 by omega]
  show valsB v b i.toNat ++ nb (v (i.toNat : Int)) b.toNat b.toNat = _
  rw [show (i.toNat : Int) = i by omega]
theorem valsB_le {v : Int → Int} {b : Int} {i j : Nat} (h : i ≤ j) : (valsB v b i).length ≤ (valsB v b j).length := by
  induction h with
  | refl => exact Nat.le_refl _
  | step _ ih => exact Nat.le_trans ih (by show _ ≤ (valsB v b _ ++ _).length; rw [List.length_append]; exact Nat.le_add_right _ _)
theorem valsB_room {v : Int → Int} {b i n : Int} (h : 0 ≤ i) (hn : i < n) (hb : 0 ≤ b) : ((valsB v b i.toNat).length : Int) + b ≤ (valsB v b n.toNat).length := by
  have h1 := valsB_le (v := v) (b := b) (show (i + 1).toNat ≤ n.toNat by omega)
  rw [valsB_next h, List.length_append, nb_len] at h1
  omega
theorem restsB_next {U : Int → Int} {k x a i : Int} (h : a ≤ i) : restsB U k x a (i + 1 - a).toNat = restsB U k x a (i - a).toNat ++ restB (U i) k x := by
  rw [show (i + 1 - a).toNat = (i - a).toNat + 1 by omega]
  show restsB U k x a (i - a).toNat ++ restB (U (a + ((i - a).toNat : Int))) k x = _
  rw [show a + ((i - a).toNat : Int) = i by omega]
theorem restsB_le {U : Int → Int} {k x a : Int} {i j : Nat} (h : i ≤ j) : (restsB U k x a i).length ≤ (restsB U k x a j).length := by
  induction h with
  | refl => exact Nat.le_refl _
  | step _ ih => exact Nat.le_trans ih (by show _ ≤ (restsB U k x a _ ++ _).length; rw [List.length_append]; exact Nat.le_add_right _ _)
theorem restsB_room {U : Int → Int} {k x a i to : Int} (h : a ≤ i) (hn : i < to) : (restsB U k x a (i - a).toNat).length + (restB (U i) k x).length ≤ (restsB U k x a (to - a).toNat).length := by
  have h1 := restsB_le (U := U) (k := k) (x := x) (a := a) (show (i + 1 - a).toNat ≤ (to - a).toNat by omega)
  rw [restsB_next h, List.length_append] at h1
  exact h1
theorem restB_15 {u x : Int} : restB u 15 x = nb (unf u) x.toNat x.toNat := if_pos rfl
theorem restB_k {u k x : Int} (h : k ≠ 15) : restB u k x = List.replicate (u / 2 ^ k.toNat).toNat 1 ++ [0] ++ nb u k.toNat k.toNat := if_neg h
theorem restB_len {u k x : Int} (h : k ≠ 15) (hu : 0 ≤ u) (hk : 0 ≤ k) : ((restB u k x).length : Int) = u / 2 ^ k.toNat + 1 + k := by
  have h1 : 0 ≤ u / 2 ^ k.toNat := Int.ediv_nonneg hu (Int.le_of_lt (pw_pos k))
  rw [restB_k h, List.length_append, List.length_append, List.length_replicate, nb_len]
  simp
  omega
/-- side and middle -/
def isMix (f0 f1 f2 f3 : Int → Int) (n : Int) : Prop := ∀ j, 0 ≤ j → j < n → f2 j = f0 j - f1 j ∧ f3 j = (f0 j + f1 j) / 2
def rf4 (a b c d : Nat) : Nat → Option Nat := fun j => if j = 0 then some a else if j = 1 then some b else if j = 2 then some c else some d
/-- bits and TURN of the four rows' bits -/
def tSum (fb : Int → Int) : Nat → Int := fun t => 16 + fb (zFirst t) + fb (zSecond t)
def fb4 (a b c d : Int) : Int → Int := fun j => if j = 0 then a else if j = 1 then b else if j = 2 then c else d
theorem pM_new {f : Nat → Int} {i : Int} (hi : 0 ≤ i) (h : i = 0 ∨ f i.toNat < (pMin f (i - 1).toNat).1) : pMin f i.toNat = (f i.toNat, i) := by
  by_cases c : i = 0
  · rw [c]; rfl
  · have h3 := h.resolve_left c
    rw [show i.toNat = (i - 1).toNat + 1 by omega] at h3 ⊢
    show (if f ((i - 1).toNat + 1) < (pMin f (i - 1).toNat).1 then (f ((i - 1).toNat + 1), ((i - 1).toNat : Int) + 1) else pMin f (i - 1).toNat) = _
    rw [if_pos h3, show ((i - 1).toNat : Int) + 1 = i by omega]
theorem pM_old {f : Nat → Int} {i : Int} (hi : 0 < i) (h : ¬ f i.toNat < (pMin f (i - 1).toNat).1) : pMin f i.toNat = pMin f (i - 1).toNat := by
  rw [show i.toNat = (i - 1).toNat + 1 by omega] at h ⊢
  show (if f ((i - 1).toNat + 1) < (pMin f (i - 1).toNat).1 then (f ((i - 1).toNat + 1), ((i - 1).toNat : Int) + 1) else pMin f (i - 1).toNat) = _
  rw [if_neg h]
