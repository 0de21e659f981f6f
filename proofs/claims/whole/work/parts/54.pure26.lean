/-! ===== the other side's pack ===== -/
noncomputable def wOf (al b : Int) : Int := Classical.epsilon (fun w => isW al b w)
theorem wOf_is {al b w : Int} (h : isW al b w) : w = wOf al b := isW_uni h (Classical.epsilon_spec (p := fun w => isW al b w) ⟨w, h⟩)
noncomputable def bbF (f0 f1 : Int → Int) (n sb oo os : Int) (oc : Int → Int) (j : Int) : Int := (bK (prF (sv (selR f0 f1 j) (wOf (orF (selR f0 f1 j) n.toNat) (rbJ sb j))) n (rbJ sb j - wOf (orF (selR f0 f1 j) n.toNat) (rbJ sb j)) oo os oc) 7).1
theorem isW_ex {al b : Int} (h : -65536 ≤ al ∧ al < 65536) (hb : 1 ≤ b) : ∃ w, isW al b w ∧ 0 ≤ w ∧ w ≤ 15 ∧ w ≤ b - 1 := by
  by_cases c : al = 0
  · exact ⟨0, ⟨fun _ => rfl, fun q => absurd c q⟩, by omega, by omega, by omega⟩
  · obtain ⟨z, hz1, hz2, hz3⟩ := ntz_ex 16 al c (by rw [e16]; omega) (by rw [e16]; omega)
    exact ⟨_, isW_of (zz := (z : Int)) hb ⟨fun q => absurd q c, fun _ => ⟨by omega, by omega, by rw [show ((z : Int)).toNat = z from rfl]; exact hz2, by rw [show ((z : Int)).toNat = z from rfl]; exact hz3⟩⟩ rfl rfl⟩
theorem orF_in {f : Int → Int} : ∀ n : Nat, (∀ j : Int, 0 ≤ j → j < n → -65536 ≤ f j ∧ f j < 65536) → -65536 ≤ orF f n ∧ orF f n < 65536
  | 0, _ => by show -65536 ≤ (0 : Int) ∧ (0 : Int) < 65536; decide
  | n + 1, h => zOr_17 (orF_in n (fun j h1 h2 => h j h1 (by omega))) (h n (by omega) (by omega))
theorem row_ex (v : Int → Int) {oc : Int → Int} {n b oo : Int} (os : Int) (hn : 1 ≤ n ∧ n ≤ 400) (hb : 0 ≤ b ∧ b ≤ 17) (hoo : 0 ≤ oo ∧ oo ≤ 4) : ∃ p K X, rowIs v n b oo os oc (bK (prF v n b oo os oc) 7).2 (bK (prF v n b oo os oc) 7).1 p K X := by
  have hnb : 0 ≤ n * b := Int.mul_nonneg (by omega) hb.1
  have h1 : prF v n b oo os oc 1 ≠ -1 := by
    show price v n b oo os oc 1 ≠ -1
    rw [price_1]; omega
  have h2 := bK_ne _ h1 6
  have h3 := bK_price (prF v n b oo os oc) 7
  have h4 := bK_in (prF v n b oo os oc) 7
  have e : prF v n b oo os oc (bK (prF v n b oo os oc) 7).2.toNat = price v n b oo os oc (bK (prF v n b oo os oc) 7).2 := by
    show price v n b oo os oc ((bK (prF v n b oo os oc) 7).2.toNat : Int) = _
    rw [show ((bK (prF v n b oo os oc) 7).2.toNat : Int) = (bK (prF v n b oo os oc) 7).2 by omega]
  have h5 : price v n b oo os oc (bK (prF v n b oo os oc) 7).2 ≠ -1 := by rw [← e, ← h3.1]; exact h2
  have h6 := price_in hn hb hoo h4 h5
  have h7 : (bK (prF v n b oo os oc) 7).1 ≤ 300000 := by rw [h3.1, e]; exact h6.2
  by_cases c : (bK (prF v n b oo os oc) 7).2 < 2
  · exact ⟨-1, z0, z0, rfl, rfl, h2, h7, h4, told_lt c⟩
  · have c2 : 2 ≤ (bK (prF v n b oo os oc) 7).2 := by omega
    obtain ⟨⟨m1, m2⟩, m3, m4⟩ := price_may c2 h5
    have ho := kO_nn (oo := oo) hoo.1 c2
    have hp := (pm_in hn ⟨ho, m1⟩ (kU_in m2)).2
    have hf := (finF_is n (kO oo (bK (prF v n b oo os oc) 7).2)).2.1
    refine ⟨rowPp (kU v oo os oc (bK (prF v n b oo os oc) 7).2) n (kO oo (bK (prF v n b oo os oc) 7).2), fun j => (pS (kU v oo os oc (bK (prF v n b oo os oc) 7).2) (kO oo (bK (prF v n b oo os oc) 7).2) (n / 2 ^ (rowPp (kU v oo os oc (bK (prF v n b oo os oc) 7).2) n (kO oo (bK (prF v n b oo os oc) 7).2)).toNat) j).2.1, fun j => (pS (kU v oo os oc (bK (prF v n b oo os oc) 7).2) (kO oo (bK (prF v n b oo os oc) 7).2) (n / 2 ^ (rowPp (kU v oo os oc (bK (prF v n b oo os oc) 7).2) n (kO oo (bK (prF v n b oo os oc) 7).2)).toNat) j).2.2, rfl, rfl, h2, h7, h4, fun q => absurd q c, fun _ => ⟨rfl, ⟨hp.1, Int.le_trans hp.2 hf⟩, ?_⟩⟩
    exact fun j _ _ => ⟨rfl, rfl⟩
theorem selR_in {f0 f1 : Int → Int} {n j : Int} (h0 : ∀ i, 0 ≤ i → i < n → -32768 ≤ f0 i ∧ f0 i < 32768) (h1 : j = 0 ∨ ∀ i, 0 ≤ i → i < n → -32768 ≤ f1 i ∧ f1 i < 32768) : ∀ i, 0 ≤ i → i < n → -65536 ≤ selR f0 f1 j i ∧ selR f0 f1 j i < 65536 := by
  intro i hi1 hi2
  have a := h0 i hi1 hi2
  unfold selR
  by_cases c : j = 0
  · rw [if_pos c]; omega
  · have b := (h1.resolve_left c) i hi1 hi2
    rw [if_neg c]
    by_cases c1 : j = 1
    · rw [if_pos c1]; omega
    · rw [if_neg c1]
      by_cases c2 : j = 2
      · rw [if_pos c2]; show -65536 ≤ f0 i - f1 i ∧ f0 i - f1 i < 65536; omega
      · rw [if_neg c2]; show -65536 ≤ (f0 i + f1 i) / 2 ∧ (f0 i + f1 i) / 2 < 65536; omega
theorem rbJ_in {sb j : Int} (h : 1 ≤ sb ∧ sb ≤ 16) : 1 ≤ rbJ sb j ∧ rbJ sb j ≤ 17 := by
  unfold rbJ
  by_cases c : j = 2
  · rw [if_pos c]; omega
  · rw [if_neg c]; omega
theorem form_all {f0 f1 oc : Int → Int} {n sb oo os j : Int} (hn : 1 ≤ n ∧ n ≤ 400) (hsb : 1 ≤ sb ∧ sb ≤ 16) (hoo : 0 ≤ oo ∧ oo ≤ 4) (h0 : ∀ i, 0 ≤ i → i < n → -32768 ≤ f0 i ∧ f0 i < 32768) (h1 : j = 0 ∨ ∀ i, 0 ≤ i → i < n → -32768 ≤ f1 i ∧ f1 i < 32768) : ∃ kd ws p K X, formOf (selR f0 f1 j) n (rbJ sb j) oo os oc kd ws (bbF f0 f1 n sb oo os oc j) p K X := by
  have hi := selR_in h0 h1
  have hr := rbJ_in (j := j) hsb
  obtain ⟨w, hw, hw1, hw2, hw3⟩ := isW_ex (b := rbJ sb j) (orF_in n.toNat (fun i a b => hi i a (by omega))) hr.1
  obtain ⟨p, K, X, hrow⟩ := row_ex (sv (selR f0 f1 j) w) (oc := oc) os hn (b := rbJ sb j - w) (by omega) hoo
  unfold bbF
  rw [← wOf_is hw]
  exact ⟨_, w, p, K, X, hw, ⟨hw1, hw2, hw3⟩, hrow⟩
/-- the values taken out of a row: its best bits -/
theorem val_bb {f0 f1 oc v : Int → Int} {n sb oo os j w wd : Int} (hn : 1 ≤ n) (hoo : 0 ≤ oo) (hw : isW (orF (selR f0 f1 j) n.toNat) (rbJ sb j) w) (hv : eqOn v (sv (selR f0 f1 j) w) 0 n) (hwd : wd = rbJ sb j - w) : (bK (prF v n wd oo os oc) 7).1 = bbF f0 f1 n sb oo os oc j := by
  unfold bbF
  rw [← wOf_is hw, ← hwd]
  have e : bK (prF v n wd oo os oc) 7 = bK (prF (sv (selR f0 f1 j) w) n wd oo os oc) 7 := bK_congr 7 (fun q _ => price_congr hn hoo (by omega) hv)
  rw [e]
theorem form_val {f v oc K X : Int → Int} {n rb oo os w wd kd bits p : Int} (hn : 1 ≤ n ∧ n ≤ 400) (hoo : 0 ≤ oo ∧ oo ≤ 4) (hw : isW (orF f n.toNat) rb w) (hwi : 0 ≤ w ∧ w ≤ 15 ∧ w ≤ rb - 1) (hv : eqOn v (sv f w) 0 n) (hwd : wd = rb - w) (hr : rowIs v n wd oo os oc kd bits p K X) : formOf f n rb oo os oc kd w bits p K X ∧ rowB v n wd w oo os oc kd p K X = rowBF f n rb oo os oc kd w p K X := by
  subst hwd
  exact ⟨⟨hw, hwi, rowIs_congr hn.1 hoo.1 hv hr⟩, rowB_congr hn hoo hv hr⟩
/-! the frame is laid down -/
theorem crc_in {B : Int → Int} {fr : Int} : ∀ m : Nat, (∀ j, fr ≤ j → j < fr + m → 0 ≤ B j ∧ B j < 256) → 0 ≤ crc B fr m ∧ crc B fr m < 256
  | 0, _ => by show (0 : Int) ≤ 0 ∧ (0 : Int) < 256; decide
  | m + 1, h => crcR_in (zXor_8 (crc_in m (fun j h1 h2 => h j h1 (by omega))) (h (fr + m) (by omega) (by omega))) 8
theorem crc_shift {B C : Int → Int} {a b : Int} : ∀ m : Nat, (∀ k : Int, 0 ≤ k → k < m → B (a + k) = C (b + k)) → crc B a m = crc C b m
  | 0, _ => rfl
  | m + 1, h => by
    show crcR 8 (zXor (crc B a m) (B (a + m))) = crcR 8 (zXor (crc C b m) (C (b + m)))
    rw [crc_shift m (fun k h1 h2 => h k h1 (by omega)), h m (by omega) (by omega)]
theorem tail_0 : ∀ b : Nat, b < 256 → ∀ m : Nat, m < 8 → (b : Int) % 2 ^ (8 - (m : Int)).toNat ≠ 0 ∨ ∀ k : Nat, k < 8 → k < m ∨ (b : Int) / 2 ^ (7 - (k : Int)).toNat % 2 = 0 := by decide +kernel
theorem tl_bit {M : Int → Int} {p r : Int} (hM : 0 ≤ M (p / 8) ∧ M (p / 8) < 256) (h : tl M p) (h1 : p ≤ r) (h2 : r < 8 * ((p + 7) / 8)) : bitAt M r = 0 := by
  have hz : ¬ p % 8 = 0 := by omega
  have ht := h hz
  obtain ⟨b, eb⟩ := Int.eq_ofNat_of_zero_le hM.1
  obtain ⟨m, em⟩ := Int.eq_ofNat_of_zero_le (show 0 ≤ p % 8 by omega)
  obtain ⟨k, ek⟩ := Int.eq_ofNat_of_zero_le (show 0 ≤ r % 8 by omega)
  unfold bitAt
  rw [show r / 8 = p / 8 by omega, eb, ek]
  rw [eb, em] at ht
  exact (((tail_0 b (by omega) m (by omega)).resolve_left (fun z => z ht)) k (by omega)).resolve_left (by omega)
theorem bit_shift {B M : Int → Int} {len r : Int} (h : B (len + r / 8) = M (r / 8)) : bitAt B (8 * len + r) = bitAt M r := by
  unfold bitAt
  rw [show (8 * len + r) / 8 = len + r / 8 by omega, show (8 * len + r) % 8 = r % 8 by omega, h]
theorem frame_copy {B B2 M0 M2 : Int → Int} {len T nbt : Int} {bits : List Int} (hl : 0 ≤ len) (hB : isBytes B) (h : wrote 4000 M0 0 bits M2) (hT : T = bits.length) (ht : tl M2 T) (hb : nbt = (T + 7) / 8 + 1) (hroom : len + nbt ≤ 2400) (h4 : ∀ k, 0 ≤ k → k < nbt → B2 (len + k) = zup M2 (nbt - 1) (crc M2 0 (nbt - 1).toNat) k) (h5 : ∀ j, j < len → B2 j = B j) (h6 : ∀ j, len + nbt ≤ j → B2 j = B j) : frameAt B len bits B2 ∧ isBytes B2 := by
  have hT0 : 0 ≤ T := by omega
  have hM : ∀ j, 0 ≤ j → j < 4000 → 0 ≤ M2 j ∧ M2 j < 256 := h.1
  have hlow : ∀ k, 0 ≤ k → k < nbt - 1 → B2 (len + k) = M2 k := fun k a b => by rw [h4 k a (by omega), zup_n (by omega)]
  have hcr : crc B2 len ((T + 7) / 8).toNat = crc M2 0 (nbt - 1).toNat := by
    rw [show ((T + 7) / 8).toNat = (nbt - 1).toNat by omega]
    exact crc_shift _ (fun k a b => by rw [hlow k a (by omega), Int.zero_add])
  have hci := crc_in (B := M2) (fr := 0) (nbt - 1).toNat (fun j a b => hM j a (by omega))
  have hlast : B2 (len + (nbt - 1)) = crc M2 0 (nbt - 1).toNat := by rw [h4 (nbt - 1) (by omega) (by omega), zup_s]
  have hby : isBytes B2 := by
    intro j a b
    by_cases c : j < len
    · rw [h5 j c]; exact hB j a b
    · by_cases d : len + nbt ≤ j
      · rw [h6 j d]; exact hB j a b
      · by_cases e : j = len + (nbt - 1)
        · rw [e, hlast]; exact hci
        · have := hlow (j - len) (by omega) (by omega)
          rw [show len + (j - len) = j by omega] at this
          rw [this]; exact hM (j - len) (by omega) (by omega)
  have hbit : ∀ r, 0 ≤ r → r < 8 * (nbt - 1) → bitAt B2 (8 * len + r) = bitAt M2 r := fun r a b => bit_shift (hlow (r / 8) (by omega) (by omega))
  have w1 : wrote 2400 B (8 * len) bits B2 := by
    refine ⟨hby, fun k hk => ?_, fun r a b => ?_⟩
    · have := h.2.1 k hk
      rw [Int.zero_add] at this
      rw [hbit k (by omega) (by omega), this]
    · unfold bitAt; rw [h5 (r / 8) (by omega)]
  have hz : ((-(bits.length : Int) % 8).toNat : Int) = -(bits.length : Int) % 8 := by omega
  have w2 : wrote 2400 B2 (8 * len + bits.length) (nb 0 (-(bits.length : Int) % 8).toNat (-(bits.length : Int) % 8).toNat) B2 := by
    refine ⟨hby, fun k hk => ?_, fun _ _ _ => rfl⟩
    rw [nb_len] at hk
    have e : 8 * len + (bits.length : Int) + (k : Int) = 8 * len + ((bits.length : Int) + k) := by omega
    rw [nb_get hk, e, hbit _ (by omega) (by omega), tl_bit (hM (T / 8) (by omega) (by omega)) ht (by omega) (by omega), Int.zero_ediv]
    rfl
  have w3 : wrote 2400 B2 (8 * len + ((bits.length : Int) + (-(bits.length : Int) % 8))) (nb (crc B2 len (((bits.length : Int) + 7) / 8).toNat) 8 8) B2 := by
    refine ⟨hby, fun k hk => ?_, fun _ _ _ => rfl⟩
    rw [nb_len] at hk
    rw [nb_get hk, ← hT, hcr]
    unfold bitAt
    rw [show (8 * len + (T + -T % 8) + (k : Int)) / 8 = len + (nbt - 1) by omega, hlast, show (7 - (8 * len + (T + -T % 8) + (k : Int)) % 8).toNat = 8 - 1 - k by omega]
  refine ⟨?_, hby⟩
  exact wrote_app (wrote_app w1 w2 (by omega) rfl) w3 (by omega) (by rw [List.length_append, nb_len]; omega)
theorem wrote_uni {N p j : Int} {B C B2 C2 : Int → Int} {bs : List Int} (h : wrote N B p bs B2) (k : wrote N C p bs C2) (e : ∀ r, 0 ≤ r → r < p → bitAt B r = bitAt C r) (hj : 0 ≤ j ∧ j < N) (hr : 8 * j + 8 ≤ p + bs.length) : B2 j = C2 j := by
  refine byte_eq hj.1 (h.1 j hj.1 hj.2) (k.1 j hj.1 hj.2) (fun r h1 h2 => ?_)
  by_cases c : r < p
  · rw [h.2.2 r (by omega) c, k.2.2 r (by omega) c]; exact e r (by omega) c
  · have a := h.2.1 (r - p).toNat (by omega)
    have b := k.2.1 (r - p).toNat (by omega)
    rw [show p + ((r - p).toNat : Int) = r by omega] at a b
    rw [a, b]
theorem wrote_pre {N p : Int} {B B2 : Int → Int} {bs cs : List Int} (h : wrote N B p (bs ++ cs) B2) : wrote N B p bs B2 := by
  refine ⟨h.1, fun k hk => ?_, h.2.2⟩
  rw [h.2.1 k (by rw [List.length_append]; omega), List.getD_eq_getElem?_getD, List.getD_eq_getElem?_getD, List.getElem?_append_left hk]
theorem frame_uni {B C B2 C2 : Int → Int} {len : Int} {bits : List Int} (hl : 0 ≤ len) (h : frameAt B len bits B2) (k : frameAt C len bits C2) (e : eqOn B C 0 len) (hr : len + (((bits.length : Int) + 7) / 8 + 1) ≤ 2400) : eqOn B2 C2 0 (len + (((bits.length : Int) + 7) / 8 + 1)) := by
  have eb : ∀ r, 0 ≤ r → r < 8 * len → bitAt B r = bitAt C r := fun r a b => by unfold bitAt; rw [e (r / 8) (by omega) (by omega)]
  have z : ((-(bits.length : Int) % 8).toNat : Int) = -(bits.length : Int) % 8 := by omega
  have h1 := wrote_pre h
  have k1 := wrote_pre k
  have l1 : eqOn B2 C2 0 (len + ((bits.length : Int) + 7) / 8) := fun j a b => wrote_uni h1 k1 eb ⟨a, by omega⟩ (by rw [List.length_append, nb_len]; omega)
  have hc : crc B2 len (((bits.length : Int) + 7) / 8).toNat = crc C2 len (((bits.length : Int) + 7) / 8).toNat := crc_congr _ (fun j a b => l1 j (by omega) (by omega))
  unfold frameAt at h k
  rw [← hc] at k
  exact fun j a b => wrote_uni h k eb ⟨a, by omega⟩ (by rw [List.length_append, List.length_append, nb_len, nb_len]; omega)
def zT (t r : Int) : Int := if r = 0 then zFirst t.toNat else zSecond t.toNat
theorem body_fore {v oc K X : Int → Int} {n b oo os kind p : Int} (hk : 2 ≤ kind) : bodyB v n b oo os oc kind p K X = (if kind = 7 then headB oo os oc else []) ++ foreB v (kU v oo os oc kind) n (kO oo kind) b p K X := by
  unfold bodyB kU kO
  rw [if_neg (by omega), if_neg (by omega)]
  by_cases c : kind = 7
  · rw [if_pos c, if_pos c, if_pos c, if_pos c]
  · rw [if_neg c, if_neg c, if_neg c, if_neg c]; rfl
theorem body_vals {v oc K X : Int → Int} {n b oo os kind p cnt : Int} (hk : 0 ≤ kind ∧ kind < 2) (h0 : kind = 0 → cnt = 1) (h1 : ¬ kind = 0 → cnt = n) : bodyB v n b oo os oc kind p K X = valsB v b cnt.toNat := by
  unfold bodyB
  by_cases c : kind = 0
  · rw [if_pos c, h0 c]; rfl
  · rw [if_neg c, if_pos (by omega), h1 c]
