/-! ===== THE SUM, written bits, read numbers ===== -/
def crc1 (s : Int) : Int := if s * 2 ≤ 255 then s * 2 else zXor (s * 2) 263
def crcR : Nat → Int → Int
  | 0, s => s
  | n + 1, s => crc1 (crcR n s)
def crc (B : Int → Int) (fr : Int) : Nat → Int
  | 0 => 0
  | k + 1 => crcR 8 (zXor (crc B fr k) (B (fr + k)))
theorem zXor_nat {a b : Nat} (ha : a < 256) (hb : b < 256) : zXor (a : Int) (b : Int) = ((a ^^^ b : Nat) : Int) := by
  unfold zXor
  have h : a ^^^ b < 256 := Nat.xor_lt_two_pow (n := 8) ha hb
  have e : iI (a : Int) ^^^ iI (b : Int) = iI ((a ^^^ b : Nat) : Int) := by
    apply Int32.toBitVec_inj.mp
    rw [Int32.toBitVec_xor, iI_toBv, iI_toBv, iI_toBv]
    apply BitVec.eq_of_toNat_eq
    rw [BitVec.toNat_xor]
    simp only [BitVec.ofInt_natCast, BitVec.toNat_ofNat]
    rw [Nat.mod_eq_of_lt (by omega), Nat.mod_eq_of_lt (by omega), Nat.mod_eq_of_lt (by omega)]
  rw [e, iI_toInt (by omega)]
theorem zXor_8 {a b : Int} (ha : 0 ≤ a ∧ a < 256) (hb : 0 ≤ b ∧ b < 256) : 0 ≤ zXor a b ∧ zXor a b < 256 := by
  obtain ⟨n, rfl⟩ := Int.eq_ofNat_of_zero_le ha.1
  obtain ⟨m, rfl⟩ := Int.eq_ofNat_of_zero_le hb.1
  have h : n ^^^ m < 256 := Nat.xor_lt_two_pow (n := 8) (by omega) (by omega)
  rw [zXor_nat (by omega) (by omega)]
  omega
theorem crc1_in {s : Int} (h : 0 ≤ s ∧ s < 256) : 0 ≤ crc1 s ∧ crc1 s < 256 := by
  obtain ⟨n, rfl⟩ := Int.eq_ofNat_of_zero_le h.1
  have k : ∀ n : Nat, n < 256 → 0 ≤ crc1 (n : Int) ∧ crc1 (n : Int) < 256 := by decide +kernel
  exact k n (by omega)
theorem crcR_in {s : Int} (h : 0 ≤ s ∧ s < 256) (n : Nat) : 0 ≤ crcR n s ∧ crcR n s < 256 := by
  induction n with
  | zero => exact h
  | succ n ih => exact crc1_in ih
theorem crc_step {t s0 s2 : Int} (ht : 0 ≤ t) (h : s2 = crcR t.toNat s0) : crcR (t + 1).toNat s0 = crc1 s2 := by
  rw [show (t + 1).toNat = t.toNat + 1 by omega, h]
  rfl
theorem crc1_lo {s : Int} (h : s * 2 ≤ 255) : crc1 s = s * 2 := if_pos h
theorem crc1_hi {s : Int} (h : ¬ s * 2 ≤ 255) : crc1 s = zXor (s * 2) 263 := if_neg h
theorem crc_next {B : Int → Int} {fr i s : Int} (hi : fr ≤ i) (h : s = crc B fr (i - fr).toNat) : crc B fr (i + 1 - fr).toNat = crcR 8 (zXor s (B i)) := by
  rw [show (i + 1 - fr).toNat = (i - fr).toNat + 1 by omega]
  show crcR 8 (zXor (crc B fr (i - fr).toNat) (B (fr + ((i - fr).toNat : Int)))) = _
  rw [← h, show fr + ((i - fr).toNat : Int) = i by omega]
/-- the bits bs stand from p on; what stood before p stays -/
def wrote (N : Int) (B : Int → Int) (p : Int) (bs : List Int) (B2 : Int → Int) : Prop :=
  (∀ j, 0 ≤ j → j < N → 0 ≤ B2 j ∧ B2 j < 256) ∧ (∀ k : Nat, k < bs.length → bitAt B2 (p + k) = bs.getD k 0) ∧ (∀ r, 0 ≤ r → r < p → bitAt B2 r = bitAt B r)
theorem wrote_nil {N : Int} {B : Int → Int} {p : Int} (h : ∀ j, 0 ≤ j → j < N → 0 ≤ B j ∧ B j < 256) : wrote N B p [] B := ⟨h, fun k hk => absurd hk (Nat.not_lt_zero k), fun _ _ _ => rfl⟩
theorem wrote_app {N : Int} {B B1 B2 : Int → Int} {p p1 : Int} {bs cs : List Int} (h1 : wrote N B p bs B1) (h2 : wrote N B1 p1 cs B2) (hp : 0 ≤ p) (e : p1 = p + bs.length) : wrote N B p (bs ++ cs) B2 := by
  subst e
  refine ⟨h2.1, fun k hk => ?_, fun r h0 h3 => ?_⟩
  · rw [List.length_append] at hk
    by_cases c : k < bs.length
    · rw [h2.2.2 (p + k) (by omega) (by omega), h1.2.1 k c]
      rw [List.getD_eq_getElem?_getD, List.getD_eq_getElem?_getD, List.getElem?_append_left c]
    · have := h2.2.1 (k - bs.length) (by omega)
      rw [show p + (bs.length : Int) + ((k - bs.length : Nat) : Int) = p + k by omega] at this
      rw [this, List.getD_eq_getElem?_getD, List.getD_eq_getElem?_getD, List.getElem?_append_right (by omega)]
  · rw [h2.2.2 r h0 (by omega), h1.2.2 r h0 h3]
def putB (b m bit : Int) : Int := if bit = 0 then zAnd b (zXor (128 / 2 ^ m.toNat) (-1)) else zOr b (128 / 2 ^ m.toNat)
theorem putB_ok : ∀ b : Nat, b < 256 → ∀ m : Nat, m < 8 → ∀ bit : Nat, bit < 2 → (0 ≤ putB b m bit ∧ putB b m bit < 256) ∧ ∀ k : Nat, k < 8 → putB b m bit / 2 ^ (7 - (k : Int)).toNat % 2 = if k = m then (bit : Int) else (b : Int) / 2 ^ (7 - (k : Int)).toNat % 2 := by decide +kernel
theorem wrote_one {N : Int} {B : Int → Int} {p bit : Int} (hB : ∀ j, 0 ≤ j → j < N → 0 ≤ B j ∧ B j < 256) (h0 : 0 ≤ p) (h1 : p < 8 * N) (hb : bit = 0 ∨ bit = 1) : wrote N B p [bit] (zup B (p / 8) (putB (B (p / 8)) (p % 8) bit)) := by
  have hb0 := hB (p / 8) (by omega) (by omega)
  obtain ⟨b, eb⟩ := Int.eq_ofNat_of_zero_le hb0.1
  obtain ⟨m, em⟩ := Int.eq_ofNat_of_zero_le (show 0 ≤ p % 8 by omega)
  obtain ⟨t, et⟩ := Int.eq_ofNat_of_zero_le (show 0 ≤ bit by omega)
  obtain ⟨q1, q2⟩ := putB_ok b (by omega) m (by omega) t (by omega)
  have bits : ∀ r, 0 ≤ r → bitAt (zup B (p / 8) (putB (B (p / 8)) (p % 8) bit)) r = if r = p then bit else bitAt B r := by
    intro r hr
    unfold bitAt
    by_cases c : r / 8 = p / 8
    · obtain ⟨k, ek⟩ := Int.eq_ofNat_of_zero_le (show 0 ≤ r % 8 by omega)
      rw [c, zup_s, eb, em, et, ek, q2 k (by omega)]
      by_cases c2 : k = m
      · rw [if_pos c2, if_pos (by omega)]
      · rw [if_neg c2, if_neg (by omega)]
    · rw [zup_n c, if_neg (fun e => c (by rw [e]))]
  refine ⟨fun j hj hj2 => ?_, fun k hk => ?_, fun r hr hr2 => ?_⟩
  · by_cases c : j = p / 8
    · rw [c, zup_s, eb, em, et]; exact q1
    · rw [zup_n c]; exact hB j hj hj2
  · have : k = 0 := by simp at hk; omega
    subst this
    rw [show p + ((0 : Nat) : Int) = p by omega, bits p h0, if_pos rfl]
    rfl
  · rw [bits r hr, if_neg (by omega)]
/-- the first k of the w bits of v, the highest first -/
def nb (v : Int) (w k : Nat) : List Int := (List.range k).map (fun j : Nat => v / 2 ^ (w - 1 - j) % 2)
theorem nb_len (v : Int) (w k : Nat) : (nb v w k).length = k := by unfold nb; simp
theorem nb_succ (v : Int) (w k : Nat) : nb v w (k + 1) = nb v w k ++ [v / 2 ^ (w - 1 - k) % 2] := by unfold nb; rw [List.range_succ, List.map_append]; rfl
/-! reading -/
def rdRel (B : Int → Int) (len fa pos bits r fa2 pos2 v : Int) : Prop := (fa = 0 ∧ pos + bits ≤ 8 * len → fa2 = 0 ∧ pos2 = pos + bits ∧ r = v) ∧ (¬ (fa = 0 ∧ pos + bits ≤ 8 * len) → fa2 = (if fa = 0 then 1 else fa) ∧ pos2 = pos ∧ r = 0)
theorem num_step {B : Int → Int} {pos i n : Int} (h0 : 0 ≤ i) (h : n = num B pos i.toNat) : 2 * n + bitAt B (pos + i) = num B pos (i + 1).toNat := by
  rw [show (i + 1).toNat = i.toNat + 1 by omega, h]
  show _ = 2 * num B pos i.toNat + bitAt B (pos + (i.toNat : Int))
  rw [show (i.toNat : Int) = i by omega]
/-- a run of 1s: (0, the place behind the 0), or (the fault, the place) -/
def frun (B : Int → Int) (len : Int) : Nat → Int → Int × Int
  | 0, p => (8, p)
  | n + 1, p => if p + 1 ≤ 8 * len then (if bitAt B p = 0 then (0, p + 1) else frun B len n (p + 1)) else (1, p)
/-- a REST of a k below 15: (the fault or 0, its value, the place) -/
def rfold (B : Int → Int) (len k pos : Int) : Int × Int × Int :=
  if (frun B len (2 ^ (24 - k).toNat) pos).1 ≠ 0 then ((frun B len (2 ^ (24 - k).toNat) pos).1, 0, (frun B len (2 ^ (24 - k).toNat) pos).2)
  else if (frun B len (2 ^ (24 - k).toNat) pos).2 + k ≤ 8 * len then (0, unf (((frun B len (2 ^ (24 - k).toNat) pos).2 - 1 - pos) * 2 ^ k.toNat + num B (frun B len (2 ^ (24 - k).toNat) pos).2 k.toNat), (frun B len (2 ^ (24 - k).toNat) pos).2 + k)
  else (1, 0, (frun B len (2 ^ (24 - k).toNat) pos).2)
theorem sgn_0 (b : Int) : sgn 0 b = 0 := by
  unfold sgn
  have := pw_pos (b - 1)
  rw [Int.zero_emod, if_pos this]
theorem frun_0 (B : Int → Int) (len k pos : Int) : frun B len (2 ^ (24 - k).toNat) pos = frun B len ((2 ^ (24 - k).toNat : Int) - 0).toNat pos := by
  rw [Int.sub_zero]
  congr 1
theorem num_1 (B : Int → Int) (p : Int) : num B p (1 : Int).toNat = bitAt B p := by
  show 2 * 0 + bitAt B (p + ((0 : Nat) : Int)) = _
  rw [show p + ((0 : Nat) : Int) = p by omega]
  omega
theorem rd_nz {B : Int → Int} {len fa pos bits r fa2 pos2 v : Int} (h : rdRel B len fa pos bits r fa2 pos2 v) (hr : ¬ r = 0) : (fa = 0 ∧ pos + bits ≤ 8 * len) ∧ fa2 = 0 ∧ pos2 = pos + bits ∧ r = v := by
  by_cases c : fa = 0 ∧ pos + bits ≤ 8 * len
  · exact ⟨c, h.1 c⟩
  · exact absurd (h.2 c).2.2 hr
theorem rd_in {B : Int → Int} {len fa pos bits r fa2 pos2 v M : Int} (h : rdRel B len fa pos bits r fa2 pos2 v) (hv : 0 ≤ v ∧ v < M) : 0 ≤ r ∧ r < M := by
  by_cases c : fa = 0 ∧ pos + bits ≤ 8 * len
  · rw [(h.1 c).2.2]; exact hv
  · rw [(h.2 c).2.2]; omega
theorem rd_pos {B : Int → Int} {len fa pos bits r fa2 pos2 v : Int} (h : rdRel B len fa pos bits r fa2 pos2 v) (hb : 0 ≤ bits) (hp : 0 ≤ pos ∧ pos ≤ 8 * len) : 0 ≤ pos2 ∧ pos2 ≤ 8 * len := by
  by_cases c : fa = 0 ∧ pos + bits ≤ 8 * len
  · have := (h.1 c).2.1; omega
  · have := (h.2 c).2.1; omega
theorem rd_fa {B : Int → Int} {len fa pos bits r fa2 pos2 v : Int} (h : rdRel B len fa pos bits r fa2 pos2 v) : fa2 = 0 ∨ fa2 = 1 ∨ fa2 = fa := by
  by_cases c : fa = 0 ∧ pos + bits ≤ 8 * len
  · have := (h.1 c).1; omega
  · have h1 := (h.2 c).1
    split at h1 <;> omega
theorem frun_next {B : Int → Int} {len n p : Int} {R : Int × Int} (h : R = frun B len n.toNat p) (hn : 0 < n) (h1 : p + 1 ≤ 8 * len) (hb : ¬ bitAt B p = 0) : R = frun B len (n - 1).toNat (p + 1) := by
  rw [h, show n.toNat = (n - 1).toNat + 1 by omega]
  show (if p + 1 ≤ 8 * len then (if bitAt B p = 0 then (0, p + 1) else frun B len (n - 1).toNat (p + 1)) else (1, p)) = _
  rw [if_pos h1, if_neg hb]
theorem frun_ok {B : Int → Int} {len n p : Int} {R : Int × Int} (h : R = frun B len n.toNat p) (hn : 0 < n) (h1 : p + 1 ≤ 8 * len) (hb : bitAt B p = 0) : R = (0, p + 1) := by
  rw [h, show n.toNat = (n - 1).toNat + 1 by omega]
  show (if p + 1 ≤ 8 * len then (if bitAt B p = 0 then (0, p + 1) else frun B len (n - 1).toNat (p + 1)) else (1, p)) = _
  rw [if_pos h1, if_pos hb]
theorem frun_end {B : Int → Int} {len n p : Int} {R : Int × Int} (h : R = frun B len n.toNat p) (hn : 0 < n) (h1 : ¬ p + 1 ≤ 8 * len) : R = (1, p) := by
  rw [h, show n.toNat = (n - 1).toNat + 1 by omega]
  show (if p + 1 ≤ 8 * len then (if bitAt B p = 0 then (0, p + 1) else frun B len (n - 1).toNat (p + 1)) else (1, p)) = _
  rw [if_neg h1]
theorem frun_many {B : Int → Int} {len n p : Int} {R : Int × Int} (h : R = frun B len n.toNat p) (hn : n ≤ 0) : R = (8, p) := by
  rw [h, show n.toNat = 0 by omega]
  rfl
theorem ones_in {o k r : Int} (ho : 0 ≤ o) (h1 : o < 2 ^ (24 - k).toNat) (hk : 0 ≤ k ∧ k ≤ 14) (hr : 0 ≤ r ∧ r < 2 ^ k.toNat) : 0 ≤ o * 2 ^ k.toNat + r ∧ o * 2 ^ k.toNat + r < 16777216 := by
  have e : (2 : Int) ^ (24 - k).toNat * 2 ^ k.toNat = 16777216 := by
    rw [← Int.pow_add, show (24 - k).toNat + k.toNat = 24 by omega]
    decide
  have hp := pw_pos k
  have h2 := Int.mul_le_mul_of_nonneg_right (show o ≤ 2 ^ (24 - k).toNat - 1 by omega) (Int.le_of_lt hp)
  rw [Int.sub_mul, e, Int.one_mul] at h2
  have h3 := Int.mul_nonneg ho (Int.le_of_lt hp)
  omega
theorem unf_in {u : Int} (h : 0 ≤ u ∧ u < 16777216) : -16777216 ≤ unf u ∧ unf u ≤ 16777216 := by
  unfold unf
  split <;> omega
theorem rfold_end {B : Int → Int} {len k pos o p f1 r1 fa1 pos1 r2 fa2 pos2 : Int} (hi3 : p = pos + o) (hi4 : f1 = 0) (hi6 : frun B len (2 ^ (24 - k).toNat) pos = frun B len ((2 ^ (24 - k).toNat : Int) - o).toNat p) (ho : o < 2 ^ (24 - k).toNat)
    (h16 : rdRel B len f1 p 1 r1 fa1 pos1 (num B p (1 : Int).toNat)) (c : r1 = 0) (h27 : rdRel B len fa1 pos1 k r2 fa2 pos2 (num B pos1 k.toNat)) :
    fa2 = (rfold B len k pos).1 ∧ (fa2 = 0 → unf (o * 2 ^ k.toNat + r2) = (rfold B len k pos).2.1 ∧ pos2 = (rfold B len k pos).2.2) := by
  rw [num_1] at h16
  by_cases ok : p + 1 ≤ 8 * len
  · obtain ⟨a1, a2, a3⟩ := h16.1 ⟨hi4, ok⟩
    have hR := frun_ok hi6 (by omega) ok (by omega)
    have e1 : (frun B len (2 ^ (24 - k).toNat) pos).1 = 0 := by rw [hR]
    have e2 : (frun B len (2 ^ (24 - k).toNat) pos).2 = p + 1 := by rw [hR]
    unfold rfold
    rw [if_neg (by omega), e2]
    by_cases ok2 : p + 1 + k ≤ 8 * len
    · obtain ⟨b1, b2, b3⟩ := h27.1 ⟨a1, by omega⟩
      rw [if_pos ok2]
      refine ⟨b1, fun _ => ⟨?_, by show pos2 = p + 1 + k; omega⟩⟩
      show _ = unf ((p + 1 - 1 - pos) * 2 ^ k.toNat + num B (p + 1) k.toNat)
      rw [b3, a2, show p + 1 - 1 - pos = o by omega]
    · obtain ⟨b1, b2, b3⟩ := h27.2 (by omega)
      rw [if_neg ok2]
      rw [if_pos a1] at b1
      exact ⟨b1, fun h => by omega⟩
  · obtain ⟨a1, a2, a3⟩ := h16.2 (by omega)
    rw [if_pos hi4] at a1
    have hR := frun_end hi6 (by omega) ok
    have e1 : (frun B len (2 ^ (24 - k).toNat) pos).1 = 1 := by rw [hR]
    obtain ⟨b1, b2, b3⟩ := h27.2 (by omega)
    rw [if_neg (by omega)] at b1
    unfold rfold
    rw [if_pos (by omega)]
    exact ⟨by show fa2 = (frun B len (2 ^ (24 - k).toNat) pos).1; omega, fun h => by omega⟩
theorem rfold_many {B : Int → Int} {len k pos p o : Int} (hi6 : frun B len (2 ^ (24 - k).toNat) pos = frun B len ((2 ^ (24 - k).toNat : Int) - o).toNat p) (ho : (2 : Int) ^ (24 - k).toNat ≤ o) : (rfold B len k pos).1 = 8 := by
  have hR := frun_many hi6 (by omega)
  have e1 : (frun B len (2 ^ (24 - k).toNat) pos).1 = 8 := by rw [hR]
  unfold rfold
  rw [if_pos (by omega)]
  exact e1
