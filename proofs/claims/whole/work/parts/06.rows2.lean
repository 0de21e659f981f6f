/-! more rows, and how objects are written -/
def b2i (P : Prop) [Decidable P] : Int := if P then 1 else 0
theorem b2i_t {P : Prop} [Decidable P] (h : P) : b2i P = 1 := if_pos h
theorem b2i_f {P : Prop} [Decidable P] (h : ¬ P) : b2i P = 0 := if_neg h
theorem lsh64 (k : Nat) (hk : k < 64) : (((iI (k : Int)).toInt64 &&& 63).toBitVec.smod 64).toNat = k := by
  rw [iI_nat]
  have h : ∀ n, n < 64 → (((nI n).toInt64 &&& 63).toBitVec.smod 64).toNat = n := by decide +kernel
  exact h k hk
theorem lI_shl {a k : Int} (h0 : 0 ≤ k) (h1 : k < 64) : lI a <<< ((iI k).toInt64 &&& 63) = lI (a * 2 ^ k.toNat) := by
  obtain ⟨n, rfl⟩ := Int.eq_ofNat_of_zero_le h0
  apply Int64.toBitVec_inj.mp
  apply BitVec.eq_of_toNat_eq
  show ((lI a).toBitVec <<< (((iI (n : Int)).toInt64 &&& 63).toBitVec.smod 64).toNat).toNat = _
  rw [lsh64 n (by omega), BitVec.toNat_shiftLeft, Nat.shiftLeft_eq, lI_toBv, lI_toBv, BitVec.toNat_ofInt, BitVec.toNat_ofInt, Int.toNat_natCast]
  have hM0 : ((2 ^ 64 : Nat) : Int) ≠ 0 := by decide
  generalize (2 ^ 64 : Nat) = M at hM0 ⊢
  apply Int.ofNat.inj
  show (((a % (M : Int)).toNat * 2 ^ n % M : Nat) : Int) = ((a * 2 ^ n % (M : Int)).toNat : Int)
  rw [Int.toNat_of_nonneg (Int.emod_nonneg _ hM0), Int.natCast_emod, Int.natCast_mul, Int.toNat_of_nonneg (Int.emod_nonneg _ hM0), Int.natCast_pow]
  rw [Int.mul_emod, Int.emod_emod_of_dvd _ (Int.dvd_refl _), ← Int.mul_emod]
  rfl
theorem ediv_in {a M : Int} (n : Nat) (hM : 0 ≤ M) (h1 : -M ≤ a) (h2 : a < M) : -M ≤ a / 2 ^ n ∧ a / 2 ^ n < M := by
  have h3 : (0 : Int) < 2 ^ n := zpow_pos n
  have h4 : (1 : Int) ≤ 2 ^ n := by omega
  have h5 := Int.mul_le_mul_of_nonneg_left h4 hM
  constructor
  · rw [Int.le_ediv_iff_mul_le h3, Int.neg_mul]
    omega
  · rw [Int.ediv_lt_iff_lt_mul h3]
    omega
theorem lI_shr {a k : Int} (ha : inL a) (h0 : 0 ≤ k) (h1 : k < 64) : lI a >>> ((iI k).toInt64 &&& 63) = lI (a / 2 ^ k.toNat) := by
  obtain ⟨n, rfl⟩ := Int.eq_ofNat_of_zero_le h0
  apply Int64.toInt_inj.mp
  show ((lI a).toBitVec.sshiftRight (((iI (n : Int)).toInt64 &&& 63).toBitVec.smod 64).toNat).toInt = _
  rw [lsh64 n (by omega), BitVec.toInt_sshiftRight]
  show (lI a).toInt >>> n = _
  rw [lI_toInt ha, Int.shiftRight_eq_div_pow, lI_toInt]
  · rfl
  · have := ediv_in (a := a) n (M := 9223372036854775808) (by decide) ha.1 ha.2
    simpa using this
theorem iI_ushr {a k : Int} (ha : 0 ≤ a ∧ a < 2147483648) (h0 : 0 ≤ k) (h1 : k < 32) : ((iI a).toUInt32 >>> ((iI k).toUInt32 &&& Int32.toUInt32 31)).toInt32 = iI (a / 2 ^ k.toNat) := by
  obtain ⟨n, rfl⟩ := Int.eq_ofNat_of_zero_le h0
  obtain ⟨b, rfl⟩ := Int.eq_ofNat_of_zero_le ha.1
  rw [iI_nat b, pk_ushrN (by omega) _ n (shu32 n (by omega)), ← iI_nat]
  simp
theorem iI_div {a b : Int} (h : 0 ≤ a ∧ a < 2147483648 ∧ 0 < b ∧ b < 2147483648) : iI a / iI b = iI (a / b) := by
  obtain ⟨n, rfl⟩ := Int.eq_ofNat_of_zero_le h.1
  obtain ⟨k, rfl⟩ := Int.eq_ofNat_of_zero_le (show 0 ≤ b by omega)
  rw [iI_nat, iI_nat, pk_div (by omega) (by omega) (by omega), ← iI_nat]
  simp
theorem iI_rem {a b : Int} (h : 0 ≤ a ∧ a < 2147483648 ∧ 0 < b ∧ b < 2147483648) : iI a - iI a / iI b * iI b = iI (a % b) := by
  rw [iI_div h, iI_mul, iI_sub]
  congr 1
  have := Int.mul_ediv_add_emod a b
  have e : a / b * b = b * (a / b) := Int.mul_comm _ _
  omega
theorem iI_ne0 {b : Int} (h : 0 < b ∧ b < 2147483648) : ¬ iI b = 0 := fun q => absurd ((iI_eq (b := 0) (by omega) (by decide)).mp q) (by omega)
section JRows2
variable {x : XX} {cc : ByteArray} {own : String} {fr lo mc ms nL ck sk pc : Nat} {lv : List (Nat × Value)} {st : List Value} {ws : va_W}
theorem j_lshl (B : JB x cc own fr lo mc ms nL) {a b : Int} (d : decode cc pc = .ok (.lshl, 1)) (h : 0 ≤ b ∧ b < 64) (k : JW x ck sk (pc + 1) lv (.long (lI (a * 2 ^ b.toNat)) :: st) ws) : JW x ck sk pc lv (.int (iI b) :: .long (lI a) :: st) ws := fun H locs ls hP hD hS hl => lv_lshl B.1 B.2.1 d (lI_shl h.1 h.2) (k H locs ls hP hD hS hl)
theorem j_lshr (B : JB x cc own fr lo mc ms nL) {a b : Int} (d : decode cc pc = .ok (.lshr, 1)) (ha : inL a) (h : 0 ≤ b ∧ b < 64) (k : JW x ck sk (pc + 1) lv (.long (lI (a / 2 ^ b.toNat)) :: st) ws) : JW x ck sk pc lv (.int (iI b) :: .long (lI a) :: st) ws := fun H locs ls hP hD hS hl => lv_lshr B.1 B.2.1 d (lI_shr ha h.1 h.2) (k H locs ls hP hD hS hl)
theorem j_iushr (B : JB x cc own fr lo mc ms nL) {a b : Int} (d : decode cc pc = .ok (.iushr, 1)) (ha : 0 ≤ a ∧ a < 2147483648) (h : 0 ≤ b ∧ b < 32) (k : JW x ck sk (pc + 1) lv (.int (iI (a / 2 ^ b.toNat)) :: st) ws) : JW x ck sk pc lv (.int (iI b) :: .int (iI a) :: st) ws := fun H locs ls hP hD hS hl => lv_iushr B.1 B.2.1 d (iI_ushr ha h.1 h.2) (k H locs ls hP hD hS hl)
theorem j_idiv (B : JB x cc own fr lo mc ms nL) {a b : Int} (d : decode cc pc = .ok (.idiv, 1)) (h : 0 ≤ a ∧ a < 2147483648 ∧ 0 < b ∧ b < 2147483648) (k : JW x ck sk (pc + 1) lv (.int (iI (a / b)) :: st) ws) : JW x ck sk pc lv (.int (iI b) :: .int (iI a) :: st) ws := fun H locs ls hP hD hS hl => lv_idiv B.1 B.2.1 d (iI_ne0 h.2.2) (by rw [iI_div h]; exact k H locs ls hP hD hS hl)
theorem j_irem (B : JB x cc own fr lo mc ms nL) {a b : Int} (d : decode cc pc = .ok (.irem, 1)) (h : 0 ≤ a ∧ a < 2147483648 ∧ 0 < b ∧ b < 2147483648) (k : JW x ck sk (pc + 1) lv (.int (iI (a % b)) :: st) ws) : JW x ck sk pc lv (.int (iI b) :: .int (iI a) :: st) ws := fun H locs ls hP hD hS hl => lv_irem B.1 B.2.1 d (iI_ne0 h.2.2) (by rw [iI_rem h]; exact k H locs ls hP hD hS hl)
theorem j_ifb_eq (B : JB x cc own fr lo mc ms nL) {p : Prop} [Decidable p] {off : Int} {tgt : Nat} (d : decode cc pc = .ok (.ifCond .eq off, 3)) (ht : (pc : Int) + off = (tgt : Int)) (kt : ¬ p → JW x ck sk tgt lv st ws) (kf : p → JW x ck sk (pc + 3) lv st ws) : JW x ck sk pc lv (.int (iI (b2i p)) :: st) ws := by
  by_cases h : p
  · rw [b2i_t h]
    exact j_if_eq B d ht (by decide) (fun q => absurd q (by decide)) (fun _ => kf h)
  · rw [b2i_f h]
    exact j_if_eq B d ht (by decide) (fun _ => kt h) (fun q => absurd rfl q)
theorem j_ifb_ne (B : JB x cc own fr lo mc ms nL) {p : Prop} [Decidable p] {off : Int} {tgt : Nat} (d : decode cc pc = .ok (.ifCond .ne off, 3)) (ht : (pc : Int) + off = (tgt : Int)) (kt : p → JW x ck sk tgt lv st ws) (kf : ¬ p → JW x ck sk (pc + 3) lv st ws) : JW x ck sk pc lv (.int (iI (b2i p)) :: st) ws := by
  by_cases h : p
  · rw [b2i_t h]
    exact j_if_ne B d ht (by decide) (fun _ => kt h) (fun q => absurd q (by decide))
  · rw [b2i_f h]
    exact j_if_ne B d ht (by decide) (fun q => absurd rfl q) (fun _ => kf h)
theorem j_tswIn (B : JB x cc own fr lo mc ms nL) {a dflt l0 h0 off : Int} {offs : Array Int} {len tgt : Nat} (d : decode cc pc = .ok (.tableswitch dflt l0 h0 offs, len)) (h1 : ¬ (iI a).toInt < l0) (h2 : ¬ h0 < (iI a).toInt) (ho : offs[((iI a).toInt - l0).toNat]? = some off) (ht : (pc : Int) + off = (tgt : Int)) (k : JW x ck sk tgt lv st ws) : JW x ck sk pc lv (.int (iI a) :: st) ws := fun H locs ls hP hD hS hl => lv_tableIn B.1 B.2.1 d h1 h2 ho ht (k H locs ls hP hD hS hl)
theorem j_tswOut (B : JB x cc own fr lo mc ms nL) {a dflt l0 h0 : Int} {offs : Array Int} {len tgt : Nat} (d : decode cc pc = .ok (.tableswitch dflt l0 h0 offs, len)) (h1 : (iI a).toInt < l0 ∨ h0 < (iI a).toInt) (ht : (pc : Int) + dflt = (tgt : Int)) (k : JW x ck sk tgt lv st ws) : JW x ck sk pc lv (.int (iI a) :: st) ws := fun H locs ls hP hD hS hl => lv_tableOut B.1 B.2.1 d h1 ht (k H locs ls hP hD hS hl)
theorem j_topc {a : Int} (b : Int) (h : iI a = iI b) (k : JW x ck sk pc lv (.int (iI b) :: st) ws) : JW x ck sk pc lv (.int (iI a) :: st) ws := by rw [h]; exact k
end JRows2
abbrev oX0 (a0 : Nat) (a1 : Int) (a2 : Int) (a3 : Int) : va_E := .inr (2, [.ref a0, .int (iI a1), .int (iI a2), .int (iI a3)])
abbrev oX1 (a0 : Nat) (a1 : Int) (a2 : Int) : va_E := .inr (3, [.ref a0, .int (iI a1), .int (iI a2)])
abbrev oX2 (a0 : Nat) (a1 : Nat) (a2 : Int) (a3 : Int) (a4 : Int) (a5 : Int) (a6 : Nat) (a7 : Nat) (a8 : Int) : va_E := .inr (4, [.ref a0, .ref a1, .int (iI a2), .int (iI a3), .int (iI a4), .int (iI a5), .ref a6, .ref a7, .int (iI a8)])
abbrev oX3 (a0 : Nat) (a1 : Nat) : va_E := .inr (5, [.ref a0, .ref a1])
abbrev oX4 (a0 : Nat) (a1 : Nat) (a2 : Int) (a3 : Int) (a4 : Int) (a5 : Int) (a6 : Int) : va_E := .inr (6, [.ref a0, .ref a1, .int (iI a2), .int (iI a3), .int (iI a4), .int (iI a5), .int (iI a6)])
abbrev oX5 (a0 : Nat) (a1 : Nat) (a2 : Int) (a3 : Int) (a4 : Int) (a5 : Int) : va_E := .inr (7, [.ref a0, .ref a1, .int (iI a2), .int (iI a3), .int (iI a4), .int (iI a5)])
abbrev oX6 (a0 : Nat) (a1 : Nat) (a2 : Nat) (a3 : Nat) (a4 : Int) (a5 : Int) (a6 : Int) : va_E := .inr (8, [.ref a0, .ref a1, .ref a2, .ref a3, .int (iI a4), .int (iI a5), .int (iI a6)])
abbrev oX7 (a0 : Nat) (a1 : Nat) (a2 : Nat) (a3 : Nat) (a4 : Nat) : va_E := .inr (9, [.ref a0, .ref a1, .ref a2, .ref a3, .ref a4])
abbrev oX8 (a0 : Nat) (a1 : Nat) (a2 : Int) (a3 : Int) (a4 : Int) (a5 : Int) : va_E := .inr (10, [.ref a0, .ref a1, .int (iI a2), .int (iI a3), .int (iI a4), .int (iI a5)])
abbrev oX9 (a0 : Nat) (a1 : Nat) (a2 : Int) (a3 : Int) : va_E := .inr (11, [.ref a0, .ref a1, .int (iI a2), .int (iI a3)])
abbrev oX10 (a0 : Nat) (a1 : Int) (a2 : Int) (a3 : Int) : va_E := .inr (12, [.ref a0, .int (iI a1), .int (iI a2), .int (iI a3)])
abbrev oX11 (a0 : Nat) (a1 : Nat) (a2 : Int) (a3 : Nat) (a4 : Nat) (a5 : Nat) (a6 : Nat) (a7 : Nat) (a8 : Nat) (a9 : Nat) : va_E := .inr (13, [.ref a0, .ref a1, .int (iI a2), .ref a3, .ref a4, .ref a5, .ref a6, .ref a7, .ref a8, .ref a9])
abbrev oX12 (a0 : Int) (a1 : Int) (a2 : Nat) (a3 : Nat) (a4 : Nat) (a5 : Int) (a6 : Int) (a7 : Int) (a8 : Nat) (a9 : Int) (a10 : Nat) (a11 : Nat) (a12 : Nat) (a13 : Nat) (a14 : Int) (a15 : Nat) (a16 : Nat) (a17 : Nat) (a18 : Int) (a19 : Int) (a20 : Int) (a21 : Nat) (a22 : Nat) (a23 : Int) (a24 : Int) (a25 : Int) (a26 : Nat) (a27 : Int) (a28 : Int) (a29 : Int) (a30 : Int) (a31 : Int) (a32 : Int) (a33 : Int) (a34 : Nat) (a35 : Nat) (a36 : Nat) (a37 : Int) : va_E := .inr (14, [.int (iI a0), .int (iI a1), .ref a2, .ref a3, .ref a4, .int (iI a5), .int (iI a6), .int (iI a7), .ref a8, .int (iI a9), .ref a10, .ref a11, .ref a12, .ref a13, .int (iI a14), .ref a15, .ref a16, .ref a17, .int (iI a18), .int (iI a19), .int (iI a20), .ref a21, .ref a22, .int (iI a23), .int (iI a24), .int (iI a25), .ref a26, .int (iI a27), .int (iI a28), .int (iI a29), .int (iI a30), .int (iI a31), .int (iI a32), .int (iI a33), .ref a34, .ref a35, .ref a36, .int (iI a37)])
