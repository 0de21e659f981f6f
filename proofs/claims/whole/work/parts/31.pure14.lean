/-! ===== a FRAME's bits ===== -/
def hdB (n ch tn sb : Int) : List Int := nb (n - 1) 9 9 ++ nb (ch - 1) 1 1 ++ nb tn 2 2 ++ nb (sb - 1) 4 4
theorem hdB_len (n ch tn sb : Int) : (hdB n ch tn sb).length = 16 := by unfold hdB; simp only [List.length_append, nb_len]
def rw4 (a b c d : List Int) (j : Int) : List Int := if j = 0 then a else if j = 1 then b else if j = 2 then c else d
theorem byte8 {b c : Int} (hb : 0 ≤ b ∧ b < 256) (hc : 0 ≤ c ∧ c < 256) (h : ∀ k : Nat, k < 8 → b / 2 ^ (7 - k) % 2 = c / 2 ^ (7 - k) % 2) : b = c := by
  have h0 := h 0 (by decide)
  have h1 := h 1 (by decide)
  have h2 := h 2 (by decide)
  have h3 := h 3 (by decide)
  have h4 := h 4 (by decide)
  have h5 := h 5 (by decide)
  have h6 := h 6 (by decide)
  have h7 := h 7 (by decide)
  rw [show (2 : Int) ^ (7 - 0) = 128 by decide] at h0
  rw [show (2 : Int) ^ (7 - 1) = 64 by decide] at h1
  rw [show (2 : Int) ^ (7 - 2) = 32 by decide] at h2
  rw [show (2 : Int) ^ (7 - 3) = 16 by decide] at h3
  rw [show (2 : Int) ^ (7 - 4) = 8 by decide] at h4
  rw [show (2 : Int) ^ (7 - 5) = 4 by decide] at h5
  rw [show (2 : Int) ^ (7 - 6) = 2 by decide] at h6
  rw [show (2 : Int) ^ (7 - 7) = 1 by decide] at h7
  omega
theorem byte_eq {B C : Int → Int} {j : Int} (hj : 0 ≤ j) (hb : 0 ≤ B j ∧ B j < 256) (hc : 0 ≤ C j ∧ C j < 256) (h : ∀ r, 8 * j ≤ r → r < 8 * j + 8 → bitAt B r = bitAt C r) : B j = C j := by
  refine byte8 hb hc (fun k hk => ?_)
  have := h (8 * j + k) (by omega) (by omega)
  unfold bitAt at this
  rw [show (8 * j + (k : Int)) / 8 = j by omega, show (7 - (8 * j + (k : Int)) % 8).toNat = 7 - k by omega] at this
  exact this
theorem wrote_byte {N p j : Int} {B B2 : Int → Int} {bs : List Int} (h : wrote N B p bs B2) (hB : ∀ j, 0 ≤ j → j < N → 0 ≤ B j ∧ B j < 256) (hj : 0 ≤ j ∧ j < N) (hp : 8 * j + 8 ≤ p) : B2 j = B j :=
  byte_eq hj.1 (h.1 j hj.1 hj.2) (hB j hj.1 hj.2) (fun r h1 h2 => h.2.2 r (by omega) (by omega))
theorem crc_congr {B C : Int → Int} {fr : Int} : ∀ m : Nat, eqOn B C fr (fr + m) → crc B fr m = crc C fr m
  | 0, _ => rfl
  | m + 1, h => by
    show crcR 8 (zXor (crc B fr m) (B (fr + m))) = crcR 8 (zXor (crc C fr m) (C (fr + m)))
    rw [crc_congr m (fun j h1 h2 => h j h1 (by omega)), h (fr + m) (by omega) (by omega)]
/-- a whole frame stands from byte len on: its bits, 0s up to a byte, THE SUM -/
def frameAt (B : Int → Int) (len : Int) (bits : List Int) (B2 : Int → Int) : Prop :=
  wrote 2400 B (8 * len) (bits ++ nb 0 (-(bits.length : Int) % 8).toNat (-(bits.length : Int) % 8).toNat ++ nb (crc B2 len (((bits.length : Int) + 7) / 8).toNat) 8 8) B2
theorem frame_end {B B3 B4 B5 : Int → Int} {len p3 p4 z s : Int} {bits : List Int} (hl : 0 ≤ len) (h3 : wrote 2400 B (8 * len) bits B3) (e3 : p3 = 8 * len + bits.length) (hz : z = -p3 % 8) (h4 : wrote 2400 B3 p3 (nb 0 z.toNat z.toNat) B4) (e4 : p4 = p3 + z) (hs : s = crc B4 len (p4 / 8 - len).toNat) (h5 : wrote 2400 B4 p4 (nb s 8 8) B5) (hr : len + ((bits.length : Int) + 7) / 8 + 1 ≤ 2400) : frameAt B len bits B5 ∧ (p4 + 8) / 8 = len + ((bits.length : Int) + 7) / 8 + 1 := by
  have hz2 : z = -(bits.length : Int) % 8 := by omega
  have hm : p4 / 8 - len = ((bits.length : Int) + 7) / 8 := by omega
  have hc : crc B5 len (((bits.length : Int) + 7) / 8).toNat = s := by
    rw [hs, hm]
    exact crc_congr _ (fun j h1 h2 => wrote_byte h5 h4.1 (by omega) (by omega))
  refine ⟨?_, by omega⟩
  unfold frameAt
  rw [hc, ← hz2]
  exact wrote_app (wrote_app h3 h4 (by omega) e3) h5 (by omega) (by rw [List.length_append, nb_len]; omega)
theorem tSum_e (b : Int → Int) (t : Nat) : tSum b t = 16 + b (zFirst t) + b (zSecond t) := rfl
theorem len2 {a b : List Int} {x : Int} (ha : a.length = 16) (hb : (b.length : Int) = x) : ((a ++ b).length : Int) = 16 + x := by rw [List.length_append]; omega
theorem len3 {a b c : List Int} {x y : Int} (ha : a.length = 16) (hb : (b.length : Int) = x) (hc : (c.length : Int) = y) : ((a ++ b ++ c).length : Int) = 16 + x + y := by rw [List.length_append, List.length_append]; omega
