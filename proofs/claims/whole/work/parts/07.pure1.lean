/-! ===== pure words of the bit stream ===== -/
theorem vb1 {p : Prop} [Decidable p] (h : p) : some (Value.int (iI 1)) = some (Value.int (iI (b2i p))) := by rw [b2i_t h]
theorem vb0 {p : Prop} [Decidable p] (h : ¬ p) : some (Value.int (iI 0)) = some (Value.int (iI (b2i p))) := by rw [b2i_f h]
def isBytes (B : Int → Int) : Prop := ∀ j, 0 ≤ j → j < 2400 → 0 ≤ B j ∧ B j < 256
def fltIf (wr fa which : Int) : Int := if wr ≠ 0 ∧ fa = 0 then which else fa
/-- bit q of the bytes B -/
def bitAt (B : Int → Int) (q : Int) : Int := B (q / 8) / 2 ^ (7 - q % 8).toNat % 2
/-- k bits from q on, as a number -/
def num (B : Int → Int) (q : Int) : Nat → Int
  | 0 => 0
  | k + 1 => 2 * num B q k + bitAt B (q + k)
theorem bitAt_01 (B : Int → Int) (q : Int) : 0 ≤ bitAt B q ∧ bitAt B q < 2 := by unfold bitAt; omega
theorem num_in (B : Int → Int) (q : Int) (k : Nat) : 0 ≤ num B q k ∧ num B q k < 2 ^ k := by
  induction k with
  | zero => exact ⟨Int.le_refl _, show (0 : Int) < 1 by decide⟩
  | succ k ih =>
    have h := bitAt_01 B (q + k)
    have e : (2 : Int) ^ (k + 1) = 2 * 2 ^ k := by rw [Int.pow_succ, Int.mul_comm]
    rw [e]
    unfold num
    omega
theorem zAnd_7 (a : Int) : zAnd a 7 = a % 8 := zAnd_mask 3 (by decide) (by decide)
theorem zAnd_1 (a : Int) : zAnd a 1 = a % 2 := zAnd_mask 1 (by decide) (by decide)
theorem p3 (a : Int) : a / 2 ^ (3 : Int).toNat = a / 8 := by rfl
/-- read(bits): what comes, and the place and fault behind it -/
def rdOk (len fa pos bits : Int) : Prop := fa = 0 ∧ pos + bits ≤ 8 * len
theorem ediv8 {p n : Int} (h0 : 0 ≤ p) (h1 : p < 8 * n) : 0 ≤ p / 8 ∧ p / 8 < n := by omega
/-! room in bits, two's complement -/
abbrev fit (v b : Int) : Prop := -(2 : Int) ^ (b - 1).toNat ≤ v ∧ v < 2 ^ (b - 1).toNat
theorem e30 : (2 : Int) ^ 30 = 1073741824 := by decide
theorem e31 : (2 : Int) ^ 31 = 2147483648 := by decide
theorem pw_le {k : Int} (n : Nat) (h : k ≤ n) : (2 : Int) ^ k.toNat ≤ 2 ^ n := zpow_le (by omega)
theorem pw_30 {k : Int} (h : k ≤ 30) : (2 : Int) ^ k.toNat ≤ 1073741824 := by have := pw_le 30 h; rw [e30] at this; exact this
theorem pw_pos (k : Int) : (0 : Int) < 2 ^ k.toNat := zpow_pos _
theorem iI_cong {a b k : Int} (h : a = b + k * 4294967296) : iI a = iI b := by
  apply Int32.toBitVec_inj.mp
  rw [iI_toBv, iI_toBv]
  apply BitVec.eq_of_toInt_eq
  rw [BitVec.toInt_ofInt, BitVec.toInt_ofInt, h]
  have e : (b + k * 4294967296) % 4294967296 = b % 4294967296 := by omega
  show (b + k * 4294967296).bmod 4294967296 = b.bmod 4294967296
  unfold Int.bmod
  show (let r := (b + k * 4294967296) % 4294967296; if r < (4294967296 + 1) / 2 then r else r - 4294967296) = (let r := b % 4294967296; if r < (4294967296 + 1) / 2 then r else r - 4294967296)
  rw [e]
/-- the b lowest bits of v, read as two's complement -/
def sgn (v b : Int) : Int := if v % 2 ^ b.toNat < 2 ^ (b - 1).toNat then v % 2 ^ b.toNat else v % 2 ^ b.toNat - 2 ^ b.toNat
theorem pw_succ {b : Int} (h : 1 ≤ b) : (2 : Int) ^ b.toNat = 2 * 2 ^ (b - 1).toNat := by
  have e : b.toNat = (b - 1).toNat + 1 := by omega
  rw [e, Int.pow_succ, Int.mul_comm]
theorem sgn_fit {v b : Int} (h : 1 ≤ b) : fit (sgn v b) b := by
  have h1 := pw_succ h
  have h2 := pw_pos (b - 1)
  have h3 := Int.emod_nonneg v (show (2 : Int) ^ b.toNat ≠ 0 by omega)
  have h4 := Int.emod_lt_of_pos v (show (0 : Int) < 2 ^ b.toNat by omega)
  unfold sgn
  split <;> constructor <;> omega
theorem sgn_cong (v b : Int) : ∃ k, v = sgn v b + k * 2 ^ b.toNat := by
  have h := Int.mul_ediv_add_emod v (2 ^ b.toNat)
  have e1 : v / 2 ^ b.toNat * 2 ^ b.toNat = 2 ^ b.toNat * (v / 2 ^ b.toNat) := Int.mul_comm _ _
  unfold sgn
  split
  · exact ⟨v / 2 ^ b.toNat, by omega⟩
  · refine ⟨v / 2 ^ b.toNat + 1, ?_⟩
    rw [Int.add_mul, Int.one_mul]
    omega
theorem sgn_shl {v b : Int} (h : 1 ≤ b) (h2 : b ≤ 32) : iI (v * 2 ^ (32 - b).toNat) = iI (sgn v b * 2 ^ (32 - b).toNat) := by
  obtain ⟨k, hk⟩ := sgn_cong v b
  have e : (2 : Int) ^ b.toNat * 2 ^ (32 - b).toNat = 4294967296 := by
    rw [← Int.pow_add, show b.toNat + (32 - b).toNat = 32 by omega]
    decide
  refine iI_cong (k := k) ?_
  have : v * 2 ^ (32 - b).toNat = (sgn v b + k * 2 ^ b.toNat) * 2 ^ (32 - b).toNat := by rw [← hk]
  rw [this, Int.add_mul, Int.mul_assoc k, e]
theorem sgn_sh_in {v b : Int} (h : 1 ≤ b) (h2 : b ≤ 32) : inR (sgn v b * 2 ^ (32 - b).toNat) := by
  have hf := sgn_fit (v := v) h
  have e : (2 : Int) ^ (b - 1).toNat * 2 ^ (32 - b).toNat = 2147483648 := by
    rw [← Int.pow_add, show (b - 1).toNat + (32 - b).toNat = 31 by omega]
    decide
  have hp := pw_pos (32 - b)
  have h3 := Int.mul_le_mul_of_nonneg_right hf.1 (Int.le_of_lt hp)
  have h4 := Int.mul_lt_mul_of_pos_right hf.2 hp
  rw [Int.neg_mul] at h3
  omega
theorem sgn_shr {v b : Int} : sgn v b * 2 ^ (32 - b).toNat / 2 ^ (32 - b).toNat = sgn v b := Int.mul_ediv_cancel _ (by have := pw_pos (32 - b); omega)
def unf (u : Int) : Int := if u % 2 = 0 then u / 2 else -(u / 2) - 1
def fld (e : Int) : Int := if e < 0 then -2 * e - 1 else 2 * e
theorem unf_fld (e : Int) : unf (fld e) = e := by
  unfold unf fld
  split <;> split <;> omega
theorem p1 (a : Int) : a / 2 ^ (1 : Int).toNat = a / 2 := by rfl
