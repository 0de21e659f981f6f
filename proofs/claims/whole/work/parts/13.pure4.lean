/-! ===== bit operations by halves ===== -/
theorem half_and (x y : Int32) : (x &&& y).toInt / 2 = ((x.toInt / 2) |> fun a => (y.toInt / 2) |> fun b => zAnd a b) := by
  show (x &&& y).toInt / 2 = zAnd (x.toInt / 2) (y.toInt / 2)
  have hx : (x >>> (1 : Int32)).toInt = x.toInt / 2 := by rw [pk_shr x 1 1 (by decide), Int.shiftRight_eq_div_pow]; rfl
  have hy : (y >>> (1 : Int32)).toInt = y.toInt / 2 := by rw [pk_shr y 1 1 (by decide), Int.shiftRight_eq_div_pow]; rfl
  have hxy : ((x &&& y) >>> (1 : Int32)).toInt = (x &&& y).toInt / 2 := by rw [pk_shr _ 1 1 (by decide), Int.shiftRight_eq_div_pow]; rfl
  have e : (x &&& y) >>> (1 : Int32) = (x >>> (1 : Int32)) &&& (y >>> (1 : Int32)) := by
    apply Int32.toBitVec_inj.mp
    show (x.toBitVec &&& y.toBitVec).sshiftRight ((1 : Int32).toBitVec.smod 32).toNat = x.toBitVec.sshiftRight ((1 : Int32).toBitVec.smod 32).toNat &&& y.toBitVec.sshiftRight ((1 : Int32).toBitVec.smod 32).toNat
    exact BitVec.sshiftRight_and_distrib _ _ _
  rw [← hxy, e, ← hx, ← hy]
  unfold zAnd
  rw [iI_of, iI_of]
theorem lowbit (x : Int32) : x.toInt % 2 = (x &&& 1).toInt := by
  have h := zAnd_1 x.toInt
  unfold zAnd at h
  rw [iI_of] at h
  exact h.symm
theorem low_and (x y : Int32) : (x &&& y).toInt % 2 = (x.toInt % 2) * (y.toInt % 2) := by
  rw [lowbit, lowbit, lowbit]
  have e : (x &&& y) &&& 1 = (x &&& 1) &&& (y &&& 1) := by
    apply Int32.toBitVec_inj.mp
    apply BitVec.eq_of_getLsbD_eq
    intro i hi
    simp only [Int32.toBitVec_and, BitVec.getLsbD_and]
    cases x.toBitVec.getLsbD i <;> cases y.toBitVec.getLsbD i <;> cases (1 : Int32).toBitVec.getLsbD i <;> rfl
  rw [e]
  have hx : x &&& 1 = 0 ∨ x &&& 1 = 1 := by
    have h := lowbit x
    have h2 : (x &&& 1).toInt = 0 ∨ (x &&& 1).toInt = 1 := by omega
    rcases h2 with h2 | h2
    · exact Or.inl (Int32.toInt_inj.mp (by rw [h2]; rfl))
    · exact Or.inr (Int32.toInt_inj.mp (by rw [h2]; rfl))
  have hy : y &&& 1 = 0 ∨ y &&& 1 = 1 := by
    have h := lowbit y
    have h2 : (y &&& 1).toInt = 0 ∨ (y &&& 1).toInt = 1 := by omega
    rcases h2 with h2 | h2
    · exact Or.inl (Int32.toInt_inj.mp (by rw [h2]; rfl))
    · exact Or.inr (Int32.toInt_inj.mp (by rw [h2]; rfl))
  rcases hx with hx | hx <;> rcases hy with hy | hy <;> rw [hx, hy] <;> decide
theorem zAnd_half {a b : Int} (ha : inR a) (hb : inR b) : zAnd a b = 2 * zAnd (a / 2) (b / 2) + (a % 2) * (b % 2) := by
  have h1 := half_and (iI a) (iI b)
  have h2 := low_and (iI a) (iI b)
  rw [iI_toInt ha, iI_toInt hb] at h1 h2
  have h3 : zAnd a b = (iI a &&& iI b).toInt := rfl
  rw [← h3] at h1 h2
  have h4 : zAnd a b / 2 = zAnd (a / 2) (b / 2) := h1
  omega
theorem zXor_m1 {a : Int} (ha : inR a) : zXor a (-1) = -a - 1 := by
  unfold zXor
  have e : iI a ^^^ iI (-1) = ~~~(iI a) := by
    apply Int32.toBitVec_inj.mp
    rw [Int32.toBitVec_xor, Int32.toBitVec_not, show (iI (-1)).toBitVec = BitVec.allOnes 32 by decide]
    exact BitVec.xor_allOnes
  rw [e, Int32.not_eq_neg_sub, show (1 : Int32) = iI 1 from rfl, iI_neg, iI_sub, iI_toInt (by omega)]
theorem zAnd_compl {q : Int} (hq : inR q) : zAnd (-q - 1) q = 0 := by
  rw [← zXor_m1 hq]
  unfold zAnd zXor
  rw [iI_of]
  have e : (iI q ^^^ iI (-1)) &&& iI q = 0 := by
    apply Int32.toBitVec_inj.mp
    rw [Int32.toBitVec_and, Int32.toBitVec_xor, show (iI (-1)).toBitVec = BitVec.allOnes 32 by decide, BitVec.xor_allOnes]
    apply BitVec.eq_of_getLsbD_eq
    intro i hi
    rw [BitVec.getLsbD_and, BitVec.getLsbD_not]
    simp
  rw [e]
  rfl
theorem ntz_mask : ∀ (z : Nat) (a : Int), -65536 ≤ a → a < 65536 → a % 2 ^ z = 0 → a / 2 ^ z % 2 = 1 → zAnd (-a - 1) (a - 1) = 2 ^ z - 1
  | 0, a, h1, h2, _, h4 => by
    have h5 : a % 2 = 1 := by rw [show (2 : Int) ^ 0 = 1 from rfl, Int.ediv_one] at h4; exact h4
    rw [zAnd_half (by omega) (by omega), show (-a - 1) / 2 = -(a / 2) - 1 by omega, show (a - 1) / 2 = a / 2 by omega, zAnd_compl (by omega), show (-a - 1) % 2 = 0 by omega, Int.zero_mul]
    rfl
  | z + 1, a, h1, h2, h3, h4 => by
    have e : (2 : Int) ^ (z + 1) = 2 * 2 ^ z := by rw [Int.pow_succ, Int.mul_comm]
    have hd : (2 : Int) ∣ a := Int.dvd_trans ⟨2 ^ z, e⟩ (Int.dvd_of_emod_eq_zero h3)
    obtain ⟨b, hb⟩ := hd
    have h5 : b % 2 ^ z = 0 := by
      have h6 : (2 : Int) ^ (z + 1) ∣ a := Int.dvd_of_emod_eq_zero h3
      rw [e, hb] at h6
      exact Int.emod_eq_zero_of_dvd (Int.dvd_of_mul_dvd_mul_left (by decide) h6)
    have h7 : b / 2 ^ z % 2 = 1 := by
      rw [e, hb, Int.mul_ediv_mul_of_pos _ _ (by decide)] at h4
      exact h4
    have ih := ntz_mask z b (by omega) (by omega) h5 h7
    rw [zAnd_half (by omega) (by omega), show (-a - 1) / 2 = -b - 1 by omega, show (a - 1) / 2 = b - 1 by omega, ih, e, show (-a - 1) % 2 = 1 by omega, show (a - 1) % 2 = 1 by omega]
    omega
theorem ntz_ex : ∀ (n : Nat) (a : Int), a ≠ 0 → -(2 : Int) ^ n ≤ a → a ≤ 2 ^ n → ∃ z : Nat, z ≤ n ∧ a % 2 ^ z = 0 ∧ a / 2 ^ z % 2 = 1
  | 0, a, h0, h1, h2 => ⟨0, Nat.le_refl _, Int.emod_one a, by
      have h3 : (2 : Int) ^ 0 = 1 := rfl
      rw [h3] at h1 h2 ⊢
      rw [Int.ediv_one]
      omega⟩
  | n + 1, a, h0, h1, h2 => by
    have e : (2 : Int) ^ (n + 1) = 2 * 2 ^ n := by rw [Int.pow_succ, Int.mul_comm]
    by_cases c : a % 2 = 1
    · exact ⟨0, Nat.zero_le _, Int.emod_one a, by rw [show (2 : Int) ^ 0 = 1 from rfl, Int.ediv_one]; exact c⟩
    · obtain ⟨z, h3, h4, h5⟩ := ntz_ex n (a / 2) (by omega) (by omega) (by omega)
      have e2 : (2 : Int) ^ (z + 1) = 2 * 2 ^ z := by rw [Int.pow_succ, Int.mul_comm]
      have hb : a = 2 * (a / 2) := by omega
      refine ⟨z + 1, by omega, ?_, ?_⟩
      · rw [e2, hb, Int.mul_emod_mul_of_pos _ _ (by decide), h4]
        rfl
      · rw [e2, hb, Int.mul_ediv_mul_of_pos _ _ (by decide), h5]
/-- which bits are wasted -/
def isW (al b w : Int) : Prop := (al = 0 → w = 0) ∧ (al ≠ 0 → 0 ≤ w ∧ w ≤ b - 1 ∧ w ≤ 15 ∧ al % 2 ^ w.toNat = 0 ∧ (w = b - 1 ∨ w = 15 ∨ al / 2 ^ w.toNat % 2 = 1))
def orF (f : Int → Int) : Nat → Int
  | 0 => 0
  | n + 1 => zOr (orF f n) (f n)
theorem orF_next {f : Int → Int} {i s : Int} (h0 : 0 ≤ i) (h : s = orF f i.toNat) : zOr s (f i) = orF f (i + 1).toNat := by
  rw [show (i + 1).toNat = i.toNat + 1 by omega, h]
  show _ = zOr (orF f i.toNat) (f (i.toNat : Int))
  rw [show (i.toNat : Int) = i by omega]
theorem zOr_17 {a b : Int} (ha : -65536 ≤ a ∧ a < 65536) (hb : -65536 ≤ b ∧ b < 65536) : -65536 ≤ zOr a b ∧ zOr a b < 65536 := by
  have hx : (iI a >>> (16 : Int32)).toInt = a / 65536 := by rw [pk_shr _ 16 16 (by decide), Int.shiftRight_eq_div_pow, iI_toInt (by omega)]; rfl
  have hy : (iI b >>> (16 : Int32)).toInt = b / 65536 := by rw [pk_shr _ 16 16 (by decide), Int.shiftRight_eq_div_pow, iI_toInt (by omega)]; rfl
  have hxy : ((iI a ||| iI b) >>> (16 : Int32)).toInt = zOr a b / 65536 := by rw [pk_shr _ 16 16 (by decide), Int.shiftRight_eq_div_pow]; rfl
  have e : (iI a ||| iI b) >>> (16 : Int32) = (iI a >>> (16 : Int32)) ||| (iI b >>> (16 : Int32)) := by
    apply Int32.toBitVec_inj.mp
    show ((iI a).toBitVec ||| (iI b).toBitVec).sshiftRight ((16 : Int32).toBitVec.smod 32).toNat = (iI a).toBitVec.sshiftRight ((16 : Int32).toBitVec.smod 32).toNat ||| (iI b).toBitVec.sshiftRight ((16 : Int32).toBitVec.smod 32).toNat
    exact BitVec.sshiftRight_or_distrib _ _ _
  have h1 : iI a >>> (16 : Int32) = 0 ∨ iI a >>> (16 : Int32) = -1 := by
    rcases (show a / 65536 = 0 ∨ a / 65536 = -1 by omega) with h | h
    · exact Or.inl (Int32.toInt_inj.mp (by rw [hx, h]; rfl))
    · exact Or.inr (Int32.toInt_inj.mp (by rw [hx, h]; rfl))
  have h2 : iI b >>> (16 : Int32) = 0 ∨ iI b >>> (16 : Int32) = -1 := by
    rcases (show b / 65536 = 0 ∨ b / 65536 = -1 by omega) with h | h
    · exact Or.inl (Int32.toInt_inj.mp (by rw [hy, h]; rfl))
    · exact Or.inr (Int32.toInt_inj.mp (by rw [hy, h]; rfl))
  rw [e] at hxy
  have h3 : zOr a b / 65536 = 0 ∨ zOr a b / 65536 = -1 := by
    rw [← hxy]
    rcases h1 with h1 | h1 <;> rcases h2 with h2 | h2 <;> rw [h1, h2] <;> decide
  omega
def isZ (al zz : Int) : Prop := (al = 0 → zz = 0) ∧ (al ≠ 0 → 0 ≤ zz ∧ zz ≤ 16 ∧ al % 2 ^ zz.toNat = 0 ∧ al / 2 ^ zz.toNat % 2 = 1)
theorem isW_of {al bits zz m1 w : Int} (hb : 1 ≤ bits) (h : isZ al zz) (e1 : m1 = if 15 < bits - 1 then 15 else bits - 1) (e2 : w = if m1 < zz then m1 else zz) : isW al bits w ∧ 0 ≤ w ∧ w ≤ 15 ∧ w ≤ bits - 1 := by
  have hm : 0 ≤ m1 ∧ m1 ≤ 15 ∧ m1 ≤ bits - 1 ∧ (m1 = 15 ∨ m1 = bits - 1) := by split at e1 <;> omega
  by_cases c : al = 0
  · have hz := h.1 c
    have hw : w = 0 := by split at e2 <;> omega
    exact ⟨⟨fun _ => hw, fun q => absurd c q⟩, by omega, by omega, by omega⟩
  · obtain ⟨z1, z2, z3, z4⟩ := h.2 c
    by_cases d : m1 < zz
    · rw [if_pos d] at e2
      subst e2
      refine ⟨⟨fun q => absurd q c, fun _ => ⟨by omega, by omega, by omega, ?_, by omega⟩⟩, by omega, by omega, by omega⟩
      exact Int.emod_eq_zero_of_dvd (Int.dvd_trans (zpow_dvd (by omega)) (Int.dvd_of_emod_eq_zero z3))
    · rw [if_neg d] at e2
      subst e2
      exact ⟨⟨fun q => absurd q c, fun _ => ⟨by omega, by omega, by omega, z3, Or.inr (Or.inr z4)⟩⟩, by omega, by omega, by omega⟩
def alk (v : Int → Int) : Nat → Bool
  | 0 => true
  | n + 1 => alk v n && decide (v n = v 0)
theorem alk_1 (v : Int → Int) : alk v 1 = true := by simp [alk]
theorem alk_step {v : Int → Int} {i : Int} (h0 : 0 ≤ i) (h : alk v i.toNat = true) (e : v i = v 0) : alk v (i + 1).toNat = true := by
  rw [show (i + 1).toNat = i.toNat + 1 by omega]
  show (alk v i.toNat && decide (v (i.toNat : Int) = v 0)) = true
  rw [h, show (i.toNat : Int) = i by omega, decide_eq_true e]
  rfl
theorem alk_no {v : Int → Int} {i : Int} (h0 : 0 ≤ i) (e : ¬ v i = v 0) : ∀ n : Nat, i < n → alk v n = false
  | 0, h => by omega
  | n + 1, h => by
    show (alk v n && decide (v (n : Int) = v 0)) = false
    by_cases c : i = n
    · rw [← c, decide_eq_false e, Bool.and_false]
    · rw [alk_no h0 e n (by omega)]
      rfl
def ft (c v : Int → Int) (o sh i : Int) : Int := fsum c v i o.toNat / 2 ^ sh.toNat
theorem ft_in {c v : Int → Int} {o sh i : Int} (ho : 0 ≤ o ∧ o ≤ 4) (hi : o ≤ i) (hc : cfOk c) (hv : vOk v i) : -134217729 ≤ ft c v o sh i ∧ ft c v o sh i < 134217729 := by
  have h := fsum_in (n := o.toNat) (by omega) (by omega) hc hv
  unfold ft
  exact ediv_in _ (by decide) (by omega) (by omega)
def cparts (p : Int) : Int := if p = -1 then 0 else 2 ^ p.toNat
def isBl (u x : Int) : Prop := 0 ≤ x ∧ u < 2 ^ x.toNat ∧ (0 < x → 2 ^ (x - 1).toNat ≤ u)
theorem bl_case {u x : Int} (k : Nat) (P : Int) (hP : (2 : Int) ^ k = P) (hx : x = k + 1) (h1 : P ≤ u) (h2 : u < 2 * P) : isBl u x := by
  subst hP
  refine ⟨by omega, ?_, fun _ => ?_⟩
  · rw [hx, show ((k : Int) + 1).toNat = k + 1 by omega, Int.pow_succ, Int.mul_comm]
    exact h2
  · rw [hx, show ((k : Int) + 1 - 1).toNat = k by omega]
    exact h1
theorem bl_0 {x : Int} (hx : x = 0) : isBl 0 x := by subst hx; exact ⟨by decide, by decide, fun h => absurd h (by decide)⟩
theorem isBl_uni {u x y : Int} (h1 : isBl u x) (h2 : isBl u y) : x = y := by
  have key : ∀ x y : Int, isBl u x → isBl u y → ¬ x < y := by
    intro x y h1 h2 c
    have h3 := h2.2.2 (by have := h1.1; omega)
    have h4 : (2 : Int) ^ x.toNat ≤ 2 ^ (y - 1).toNat := zpow_le (by have := h1.1; omega)
    have h5 := h1.2.1
    omega
  have a := key x y h1 h2
  have b := key y x h2 h1
  omega
theorem zcpy_16 {f h : Int → Int} {j : Int} (h1 : 0 ≤ j) (h2 : j < 16) : zcpy f h 0 0 16 j = f j := by
  unfold zcpy
  rw [if_pos (by omega), show 0 + (j - 0) = j by omega]
theorem e16 : (2 : Int) ^ 16 = 65536 := by decide
