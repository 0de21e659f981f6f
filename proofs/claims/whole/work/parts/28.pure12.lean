/-! ===== all bits of a ROW ===== -/
def bodyB (v : Int → Int) (n b oo os : Int) (oc : Int → Int) (kind p : Int) (K X : Int → Int) : List Int :=
  if kind = 0 then valsB v b 1 else if kind = 1 then valsB v b n.toNat else if kind = 7 then headB oo os oc ++ foreB v (rests v oc oo os) n oo b p K X else foreB v (rests v (cFix (kind - 2)) (kind - 2) 0) n (kind - 2) b p K X
def rowB (v : Int → Int) (n b w oo os : Int) (oc : Int → Int) (kind p : Int) (K X : Int → Int) : List Int := nb kind 3 3 ++ nb w 4 4 ++ bodyB v n b oo os oc kind p K X
def sv (f : Int → Int) (w : Int) : Int → Int := fun j => f j / 2 ^ w.toNat
/-- what a form is of a row of values f of rb bits -/
def formOf (f : Int → Int) (n rb oo os : Int) (oc : Int → Int) (kd ws bits p : Int) (K X : Int → Int) : Prop :=
  isW (orF f n.toNat) rb ws ∧ (0 ≤ ws ∧ ws ≤ 15 ∧ ws ≤ rb - 1) ∧ rowIs (sv f ws) n (rb - ws) oo os oc kd bits p K X
theorem valsB_len (v : Int → Int) (b : Int) : ∀ m : Nat, (valsB v b m).length = m * b.toNat
  | 0 => by show 0 = 0 * b.toNat; rw [Nat.zero_mul]
  | m + 1 => by
    show (valsB v b m ++ nb (v m) b.toNat b.toNat).length = _
    rw [List.length_append, valsB_len v b m, nb_len, Nat.succ_mul]
theorem restsB_len15 (U : Int → Int) (x a : Int) : ∀ m : Nat, (restsB U 15 x a m).length = m * x.toNat
  | 0 => by show 0 = 0 * x.toNat; rw [Nat.zero_mul]
  | m + 1 => by
    show (restsB U 15 x a m ++ restB (U (a + m)) 15 x).length = _
    rw [List.length_append, restsB_len15 U x a m, restB_15, nb_len, Nat.succ_mul]
theorem restsB_lenk {U : Int → Int} {k x a : Int} (hk : 0 ≤ k) (hn : k ≠ 15) : ∀ m : Nat, (∀ i, a ≤ i → i < a + m → 0 ≤ U i) → ((restsB U k x a m).length : Int) = usum U k.toNat a m + (m : Int) * (1 + k)
  | 0, _ => by show (0 : Int) = 0 + ((0 : Nat) : Int) * (1 + k); omega
  | m + 1, h => by
    have ih := restsB_lenk (x := x) hk hn m (fun i h1 h2 => h i h1 (by omega))
    have h1 := restB_len (u := U (a + m)) (x := x) hn (h (a + m) (by omega) (by omega)) hk
    show ((restsB U k x a m ++ restB (U (a + m)) k x).length : Int) = usum U k.toNat a m + U (a + m) / 2 ^ k.toNat + ((m + 1 : Nat) : Int) * (1 + k)
    rw [List.length_append, Int.natCast_add, ih, h1, Int.natCast_add, Int.add_mul]
    omega
theorem kBest_val (S : Nat → Int) (cnt : Int) : ∀ m : Nat, (kBest S cnt m).1 = kb S cnt (kBest S cnt m).2.toNat
  | 0 => rfl
  | m + 1 => by
    have ih := kBest_val S cnt m
    show (if kb S cnt (m + 1) < (kBest S cnt m).1 then (kb S cnt (m + 1), (m : Int) + 1) else kBest S cnt m).1 = kb S cnt (if kb S cnt (m + 1) < (kBest S cnt m).1 then (kb S cnt (m + 1), (m : Int) + 1) else kBest S cnt m).2.toNat
    split
    · show kb S cnt (m + 1) = kb S cnt ((m : Int) + 1).toNat
      rw [show ((m : Int) + 1).toNat = m + 1 by omega]
    · exact ih
theorem partSel_kx {S : Nat → Int} {cnt x : Int} (hc : 0 ≤ cnt ∧ cnt ≤ 400) (hx : 0 ≤ x ∧ x ≤ 24) (hS : ∀ t : Nat, t < 15 → 0 ≤ S t ∧ S t ≤ 17179869184) : (0 ≤ (partSel S cnt x).2.1 ∧ (partSel S cnt x).2.1 ≤ 15) ∧ ((partSel S cnt x).2.1 = 15 → 0 ≤ (partSel S cnt x).2.2 ∧ (partSel S cnt x).2.2 ≤ 24) := by
  have h := kBest_in hc hS 14 (by decide)
  unfold partSel
  split
  · exact ⟨⟨show (0 : Int) ≤ 15 by decide, show (15 : Int) ≤ 15 by decide⟩, fun _ => hx⟩
  · refine ⟨⟨h.2.1, ?_⟩, fun q => ?_⟩
    · show (kBest S cnt 14).2 ≤ 15; have := h.2.2; omega
    · have q' : (kBest S cnt 14).2 = 15 := q
      have := h.2.2; omega
theorem part_len {U : Int → Int} {n o each c j k x : Int} (hn : n ≤ 400) (ho : 0 ≤ o ∧ o ≤ each) (he : n = c * each) (hj : 0 ≤ j ∧ j < c) (hU : uIn U o n) (hk : k = (pS U o each j).2.1) (hx : x = (pS U o each j).2.2) :
    (((kB k x).length + (restsB U k x (pst o each j) (pln o each j).toNat).length : Nat) : Int) = (pS U o each j).1 ∧ ((0 ≤ k ∧ k ≤ 15) ∧ (k = 15 → 0 ≤ x ∧ x ≤ 24)) := by
  have r := prange ho he hj
  have h1 := mul_le_r (show 1 ≤ c by omega) (show 0 ≤ each by omega)
  have hin : uIn U (pst o each j) (pst o each j + ((pln o each j).toNat : Int)) := fun i h1 h2 => hU i (by omega) (by omega)
  have hS : ∀ t : Nat, t < 15 → 0 ≤ usum U t (pst o each j) (pln o each j).toNat ∧ usum U t (pst o each j) (pln o each j).toNat ≤ 17179869184 := fun t _ => by
    have := usum_in t _ hin; omega
  have hu := uor_in _ hin
  have hb := bl_24 (bl_is hu.1) hu.2
  have hcnt : 0 ≤ pln o each j ∧ pln o each j ≤ 400 := by omega
  have hkx := partSel_kx (S := fun t => usum U t (pst o each j) (pln o each j).toNat) hcnt hb hS
  have hkb := (kBest_in (S := fun t => usum U t (pst o each j) (pln o each j).toNat) hcnt hS 14 (by decide)).2
  have hkv := kBest_val (fun t => usum U t (pst o each j) (pln o each j).toNat) (pln o each j) 14
  constructor
  · unfold pS at hk hx ⊢
    generalize hSe : (fun t => usum U t (pst o each j) (pln o each j).toNat) = S at *
    unfold partSel at hk hx ⊢
    split
    · rename_i q
      rw [if_pos q] at hk hx
      have hk' : k = 15 := hk
      have hx' : x = bl (uor U (pst o each j) (pln o each j).toNat) := hx
      rw [hk', kB_len15 rfl, restsB_len15, hx']
      show ((9 + (pln o each j).toNat * (bl (uor U (pst o each j) (pln o each j).toNat)).toNat : Nat) : Int) = 9 + pln o each j * bl (uor U (pst o each j) (pln o each j).toNat)
      rw [Int.natCast_add, Int.natCast_mul, show ((pln o each j).toNat : Int) = pln o each j by omega, show ((bl (uor U (pst o each j) (pln o each j).toNat)).toNat : Int) = bl (uor U (pst o each j) (pln o each j).toNat) by omega]
      rfl
    · rename_i q
      rw [if_neg q] at hk hx
      have hk' : k = (kBest S (pln o each j) 14).2 := hk
      have hl := restsB_lenk (U := U) (k := k) (x := x) (a := pst o each j) (by omega) (by omega) (pln o each j).toNat (fun i a1 a2 => (hin i a1 a2).1)
      rw [Int.natCast_add, hl, kB_lenk (by omega)]
      show _ = (kBest S (pln o each j) 14).1
      rw [hkv, ← hk']
      unfold kb
      rw [← hSe, show (k.toNat : Int) = k by omega, show ((pln o each j).toNat : Int) = pln o each j by omega]
      show 4 + (usum U k.toNat (pst o each j) (pln o each j).toNat + pln o each j * (1 + k)) = 4 + usum U k.toNat (pst o each j) (pln o each j).toNat + pln o each j * (1 + k)
      omega
  · unfold pS at hk hx
    rw [hk, hx]
    exact hkx
theorem partsB_len {U K X : Int → Int} {n o each c : Int} (hn : n ≤ 400) (ho : 0 ≤ o ∧ o ≤ each) (he : n = c * each) (hU : uIn U o n) (hkx : ∀ j, 0 ≤ j → j < c → K j = (pS U o each j).2.1 ∧ X j = (pS U o each j).2.2) : ∀ m : Nat, (m : Int) ≤ c → ((partsB U o each K X m).length : Int) = psum U o each m
  | 0, _ => rfl
  | m + 1, hm => by
    have hj := hkx m (by omega) (by omega)
    have h1 := (part_len hn ho he (j := m) (by omega) hU hj.1 hj.2).1
    have ih := partsB_len hn ho he hU hkx m (by omega)
    have e := partsB_next (U := U) (o := o) (each := each) (K := K) (X := X) (j := m) (by omega)
    rw [show ((m : Int) + 1).toNat = m + 1 by omega, Int.toNat_natCast] at e
    rw [e, List.length_append, List.length_append]
    show _ = psum U o each m + (pS U o each m).1
    omega
theorem fore_facts {v oc K X : Int → Int} {n b oo os kd bits p : Int} (hn : 1 ≤ n ∧ n ≤ 400) (hoo : 0 ≤ oo ∧ oo ≤ 4) (hk : 2 ≤ kd) (h : rowIs v n b oo os oc kd bits p K X) :
    ((0 ≤ p ∧ p ≤ 4) ∧ kO oo kd ≤ n ∧ allU (kU v oo os oc kd) (kO oo kd) n ∧ (kO oo kd ≤ n / 2 ^ p.toNat ∧ n = 2 ^ p.toNat * (n / 2 ^ p.toNat)) ∧ kxIn K X (2 ^ p.toNat) ∧ (kd = 7 → oo ≠ 0)) ∧
    bits = 7 + kO oo kd * b + (if kd = 7 then 6 + oo * 10 else 0) + (3 + (partsB (kU v oo os oc kd) (kO oo kd) (n / 2 ^ p.toNat) K X (2 ^ p.toNat)).length) := by
  obtain ⟨a1, a2, a3, a4, a5, a6⟩ := h
  have hb := bK_price (prF v n b oo os oc) 7
  have hpr : bits = price v n b oo os oc kd := by
    have h1 := hb.1
    unfold prF at h1 a1 a2 hb
    rw [show (((bK (fun q : Nat => price v n b oo os oc q) 7).2.toNat : Nat) : Int) = kd by omega] at h1
    rw [a1, h1]
  have hm := price_may hk (by rw [← hpr]; exact a3)
  obtain ⟨c1, c2, c3⟩ := a6.2 hk
  have hO := kO_nn (kind := kd) hoo.1 hk
  have hF := pMin_FM (lvB (kU v oo os oc kd) n (kO oo kd)) (finF n (kO oo kd)).toNat
  have hf0 := (finF_is n (kO oo kd)).1
  have hpf : p ≤ finF n (kO oo kd) := by have := hF.2.1; unfold rowPp at c1; omega
  have hf := fin_facts (p := p) hn.1 ⟨hO, hm.1.1⟩ (finF_is n (kO oo kd)) ⟨c2.1, hpf⟩
  have hU : uIn (kU v oo os oc kd) (kO oo kd) n := fun i q1 q2 => ⟨by unfold kU; split <;> exact fld_nn _, hm.1.2 i q1 q2⟩
  have e : ((2 ^ p.toNat : Nat) : Int) = (2 : Int) ^ p.toNat := Int.natCast_pow 2 _
  have hl := partsB_len hn.2 ⟨hO, hf.1.1⟩ hf.1.2.1 hU c3 (2 ^ p.toNat) (by rw [e]; exact Int.le_refl _)
  refine ⟨⟨c2, hm.1.1, hm.1.2, ⟨hf.1.1, hf.1.2.1⟩, fun j q1 q2 => ?_, hm.2.1⟩, ?_⟩
  · have := c3 j q1 q2
    exact (part_len hn.2 ⟨hO, hf.1.1⟩ hf.1.2.1 ⟨q1, q2⟩ hU this.1 this.2).2
  · rw [hpr, hm.2.2, hF.2.2.1, hl]
    unfold rowPp at c1
    rw [← c1]
    rfl
theorem kOU_7 {v oc : Int → Int} {oo os : Int} : kO oo 7 = oo ∧ kU v oo os oc 7 = rests v oc oo os := ⟨rfl, rfl⟩
theorem kOU_f {v oc : Int → Int} {oo os kd : Int} (h : kd ≠ 7) : kO oo kd = kd - 2 ∧ kU v oo os oc kd = rests v (cFix (kd - 2)) (kd - 2) 0 := ⟨if_neg h, if_neg h⟩
theorem rowB_len {v oc K X : Int → Int} {n b w oo os kd bits p : Int} (hn : 1 ≤ n ∧ n ≤ 400) (hb : 0 ≤ b) (hoo : 0 ≤ oo ∧ oo ≤ 4) (h : rowIs v n b oo os oc kd bits p K X) : ((rowB v n b w oo os oc kd p K X).length : Int) = bits := by
  have h0 := h
  obtain ⟨a1, a2, a3, a4, a5, a6⟩ := h0
  have hbk := bK_price (prF v n b oo os oc) 7
  have hpr : bits = price v n b oo os oc kd := by
    have h1 := hbk.1
    unfold prF at h1 a1 a2 hbk
    rw [show (((bK (fun q : Nat => price v n b oo os oc q) 7).2.toNat : Nat) : Int) = kd by omega] at h1
    rw [a1, h1]
  unfold rowB bodyB
  rw [List.length_append, List.length_append, nb_len, nb_len]
  by_cases c0 : kd = 0
  · rw [if_pos c0, valsB_len]
    subst c0
    by_cases q : alk v n.toNat = true
    · rw [price_0t q] at hpr; omega
    · rw [price_0f q] at hpr; exact absurd hpr a3
  · rw [if_neg c0]
    by_cases c1 : kd = 1
    · rw [if_pos c1, valsB_len]
      subst c1
      rw [price_1] at hpr
      rw [hpr, Int.natCast_add, Int.natCast_mul, show (n.toNat : Int) = n by omega, show (b.toNat : Int) = b by omega]
      rfl
    · rw [if_neg c1]
      have hf := (fore_facts hn hoo (by omega) h).2
      by_cases c7 : kd = 7
      · rw [if_pos c7]
        subst c7
        rw [(kOU_7 (v := v) (oc := oc) (oo := oo) (os := os)).1, (kOU_7 (v := v) (oc := oc) (oo := oo) (os := os)).2, if_pos rfl] at hf
        have hh := headB_len (os := os) (oc := oc) hoo.1
        unfold foreB
        rw [List.length_append, List.length_append, List.length_append, valsB_len, nb_len, hf]
        have e : ((oo.toNat * b.toNat : Nat) : Int) = oo * b := by rw [Int.natCast_mul, show (oo.toNat : Int) = oo by omega, show (b.toNat : Int) = b by omega]
        omega
      · rw [if_neg c7]
        rw [(kOU_f (v := v) (oc := oc) (oo := oo) (os := os) c7).1, (kOU_f (v := v) (oc := oc) (oo := oo) (os := os) c7).2, if_neg c7] at hf
        unfold foreB
        rw [List.length_append, List.length_append, valsB_len, nb_len, hf]
        have e : (((kd - 2).toNat * b.toNat : Nat) : Int) = (kd - 2) * b := by rw [Int.natCast_mul, show ((kd - 2).toNat : Int) = kd - 2 by omega, show (b.toNat : Int) = b by omega]
        omega
theorem valsB_congr {v u : Int → Int} {b : Int} : ∀ m : Nat, eqOn v u 0 m → valsB v b m = valsB u b m
  | 0, _ => rfl
  | m + 1, h => by
    show valsB v b m ++ nb (v m) b.toNat b.toNat = valsB u b m ++ nb (u m) b.toNat b.toNat
    rw [valsB_congr m (fun j h1 h2 => h j h1 (by omega)), h m (by omega) (by omega)]
theorem restsB_congr {U T : Int → Int} {k x a : Int} : ∀ m : Nat, eqOn U T a (a + m) → restsB U k x a m = restsB T k x a m
  | 0, _ => rfl
  | m + 1, h => by
    show restsB U k x a m ++ restB (U (a + m)) k x = restsB T k x a m ++ restB (T (a + m)) k x
    rw [restsB_congr m (fun j h1 h2 => h j h1 (by omega)), h (a + m) (by omega) (by omega)]
theorem partsB_congr {U T K X : Int → Int} {n o each c : Int} (ho : 0 ≤ o ∧ o ≤ each) (hn : n = c * each) (h : eqOn U T o n) : ∀ m : Nat, (m : Int) ≤ c → partsB U o each K X m = partsB T o each K X m
  | 0, _ => rfl
  | m + 1, hm => by
    have r := prange ho hn (j := m) (by omega)
    show partsB U o each K X m ++ partB U (K m) (X m) (pst o each m) (pln o each m).toNat = partsB T o each K X m ++ partB T (K m) (X m) (pst o each m) (pln o each m).toNat
    unfold partB
    rw [partsB_congr ho hn h m (by omega), restsB_congr _ (fun i h1 h2 => h i (by omega) (by omega))]
theorem rowB_congr {v u oc K X : Int → Int} {n b w oo os kd bits p : Int} (hn : 1 ≤ n ∧ n ≤ 400) (hoo : 0 ≤ oo ∧ oo ≤ 4) (h : eqOn v u 0 n) (hr : rowIs v n b oo os oc kd bits p K X) : rowB v n b w oo os oc kd p K X = rowB u n b w oo os oc kd p K X := by
  unfold rowB bodyB
  by_cases c0 : kd = 0
  · rw [if_pos c0, if_pos c0, valsB_congr 1 (fun j h1 h2 => h j h1 (by omega))]
  · rw [if_neg c0, if_neg c0]
    by_cases c1 : kd = 1
    · rw [if_pos c1, if_pos c1, valsB_congr n.toNat (fun j h1 h2 => h j h1 (by omega))]
    · rw [if_neg c1, if_neg c1]
      have hk : 2 ≤ kd := by have := hr.2.2.2.2.1; omega
      have hf := (fore_facts hn hoo hk hr).1
      have hU := kU_eqOn (oc := oc) (os := os) hoo.1 hk h
      have hO := kO_nn (kind := kd) hoo.1 hk
      have e : ((2 ^ p.toNat : Nat) : Int) = (2 : Int) ^ p.toNat := Int.natCast_pow 2 _
      have hpc := partsB_congr (K := K) (X := X) ⟨hO, hf.2.2.2.1.1⟩ hf.2.2.2.1.2 hU (2 ^ p.toNat) (by rw [e]; exact Int.le_refl _)
      by_cases c7 : kd = 7
      · rw [if_pos c7, if_pos c7]
        subst c7
        rw [(kOU_7 (v := v) (oc := oc) (oo := oo) (os := os)).1, (kOU_7 (v := v) (oc := oc) (oo := oo) (os := os)).2, (kOU_7 (v := u) (oc := oc) (oo := oo) (os := os)).2] at hpc
        unfold foreB
        rw [hpc, valsB_congr oo.toNat (fun j h1 h2 => h j h1 (by have := hf.2.1; rw [(kOU_7 (v := v) (oc := oc) (oo := oo) (os := os)).1] at this; omega))]
      · rw [if_neg c7, if_neg c7]
        rw [(kOU_f (v := v) (oc := oc) (oo := oo) (os := os) c7).1, (kOU_f (v := v) (oc := oc) (oo := oo) (os := os) c7).2, (kOU_f (v := u) (oc := oc) (oo := oo) (os := os) c7).2] at hpc
        unfold foreB
        rw [hpc, valsB_congr (kd - 2).toNat (fun j h1 h2 => h j h1 (by have := hf.2.1; rw [(kOU_f (v := v) (oc := oc) (oo := oo) (os := os) c7).1] at this; omega))]
