/-! ===== reading speaks of the bytes ahead of len alone ===== -/
theorem bit_cg {B C : Int → Int} {len q : Int} (h : eqOn B C 0 len) (h0 : 0 ≤ q) (h1 : q < 8 * len) : bitAt B q = bitAt C q := by
  unfold bitAt
  rw [h (q / 8) (by omega) (by omega)]
theorem num_cg {B C : Int → Int} {len pos : Int} (h : eqOn B C 0 len) (h0 : 0 ≤ pos) : ∀ k : Nat, pos + k ≤ 8 * len → num B pos k = num C pos k
  | 0, _ => rfl
  | k + 1, hk => by
    show 2 * num B pos k + bitAt B (pos + k) = 2 * num C pos k + bitAt C (pos + k)
    rw [num_cg h h0 k (by omega), bit_cg h (by omega) (by omega)]
theorem getR_cg {β : Type} [Inhabited β] {B C : Int → Int} {len bits pos : Int} {f g : Int → Int → Int × β} (h : eqOn B C 0 len) (h0 : 0 ≤ pos) (hb : 0 ≤ bits) (hf : ∀ q p, pos ≤ p → p ≤ 8 * len → f q p = g q p) : getR B len bits pos f = getR C len bits pos g := by
  unfold getR
  by_cases c : pos + bits ≤ 8 * len
  · rw [if_pos c, if_pos c, num_cg h h0 bits.toNat (by omega), hf _ _ (by omega) c]
  · rw [if_neg c, if_neg c]
theorem thenR_cg {β : Type} [Inhabited β] {r s : RR} {pos : Int} {f g : Int → (Int → Int) → Int × β} (h : r = s) (hg : geR pos r) (hf : ∀ p v, pos ≤ p → f p v = g p v) : thenR r f = thenR s g := by
  subst h
  unfold thenR
  by_cases c : r.1 = 0
  · rw [if_pos c, if_pos c, hf _ _ (hg c)]
  · rw [if_neg c, if_neg c]
theorem fltR_cg {β : Type} [Inhabited β] {c : Prop} [Decidable c] {e : Int} {f g : Int × β} (h : f = g) : fltR c e f = fltR c e g := by rw [h]
theorem frun_cg {B C : Int → Int} {len : Int} (h : eqOn B C 0 len) : ∀ (n : Nat) (p : Int), 0 ≤ p → frun B len n p = frun C len n p
  | 0, _, _ => rfl
  | n + 1, p, hp => by
    show (if p + 1 ≤ 8 * len then (if bitAt B p = 0 then (0, p + 1) else frun B len n (p + 1)) else (1, p)) = (if p + 1 ≤ 8 * len then (if bitAt C p = 0 then (0, p + 1) else frun C len n (p + 1)) else (1, p))
    by_cases c : p + 1 ≤ 8 * len
    · rw [if_pos c, if_pos c, bit_cg h hp (by omega), frun_cg h n (p + 1) (by omega)]
    · rw [if_neg c, if_neg c]
theorem rfold_cg {B C : Int → Int} {len k pos : Int} (h : eqOn B C 0 len) (hk : 0 ≤ k) (h0 : 0 ≤ pos) : rfold B len k pos = rfold C len k pos := by
  unfold rfold
  rw [frun_cg h _ pos h0]
  have hg := frun_ge (B := C) (len := len) (2 ^ (24 - k).toNat) pos
  by_cases c : (frun C len (2 ^ (24 - k).toNat) pos).1 ≠ 0
  · rw [if_pos c, if_pos c]
  · rw [if_neg c, if_neg c]
    by_cases d : (frun C len (2 ^ (24 - k).toNat) pos).2 + k ≤ 8 * len
    · rw [if_pos d, if_pos d, num_cg h (by omega) k.toNat (by omega)]
    · rw [if_neg d, if_neg d]
theorem restAt_cg {B C : Int → Int} {len k xx pos : Int} (h : eqOn B C 0 len) (hk : 0 ≤ k) (hx : 0 ≤ xx) (h0 : 0 ≤ pos) : restAt B len k xx pos = restAt C len k xx pos := by
  unfold restAt
  by_cases c : k = 15
  · rw [if_pos c, if_pos c]
    by_cases d : pos + xx ≤ 8 * len
    · rw [if_pos d, if_pos d, num_cg h h0 xx.toNat (by omega)]
    · rw [if_neg d, if_neg d]
  · rw [if_neg c, if_neg c]; exact rfold_cg h hk h0
theorem elemR_B {B C c : Int → Int} {len b k xx o sh : Int} (h : eqOn B C 0 len) (hk : 0 ≤ k) (hx : 0 ≤ xx) : ∀ (m : Nat) (i pos : Int) (v : Int → Int), 0 ≤ pos → elemR B len b k xx o sh c m i pos v = elemR C len b k xx o sh c m i pos v
  | 0, _, _, _, _ => rfl
  | m + 1, i, pos, v, h0 => by
    show (if (restAt B len k xx pos).1 = 0 then fltR (¬ fit (ft c v o sh i + (restAt B len k xx pos).2.1) b) 8 (elemR B len b k xx o sh c m (i + 1) (restAt B len k xx pos).2.2 (zup v i (ft c v o sh i + (restAt B len k xx pos).2.1))) else ((restAt B len k xx pos).1, default)) = (if (restAt C len k xx pos).1 = 0 then fltR (¬ fit (ft c v o sh i + (restAt C len k xx pos).2.1) b) 8 (elemR C len b k xx o sh c m (i + 1) (restAt C len k xx pos).2.2 (zup v i (ft c v o sh i + (restAt C len k xx pos).2.1))) else ((restAt C len k xx pos).1, default))
    rw [restAt_cg h hk hx h0]
    by_cases d : (restAt C len k xx pos).1 = 0
    · have hg := rest_ge (B := C) (len := len) hk hx d
      rw [if_pos d, if_pos d, elemR_B h hk hx m _ _ _ (by omega)]
    · rw [if_neg d, if_neg d]
theorem partR_B {B C c : Int → Int} {len b o sh fr to pos : Int} {v : Int → Int} (h : eqOn B C 0 len) (h0 : 0 ≤ pos) : partR B len b o sh c fr to pos v = partR C len b o sh c fr to pos v := by
  unfold partR
  unfold getR
  by_cases d : pos + 4 ≤ 8 * len
  · rw [if_pos d, if_pos d, num_cg h h0 (4 : Int).toNat (by show pos + 4 ≤ _; omega)]
    have hk := num_in C pos (4 : Int).toNat
    generalize num C pos (4 : Int).toNat = k at hk ⊢
    unfold xR
    by_cases q : k = 15
    · rw [if_pos q, if_pos q]
      unfold getR
      by_cases e : pos + 4 + 5 ≤ 8 * len
      · rw [if_pos e, if_pos e, num_cg h (by omega) (5 : Int).toNat (by show pos + 4 + 5 ≤ _; omega)]
        have hx := num_in C (pos + 4) (5 : Int).toNat
        exact fltR_cg (elemR_B h hk.1 hx.1 _ _ _ _ (by omega))
      · rw [if_neg e, if_neg e]
    · rw [if_neg q, if_neg q]
      unfold xT
      rw [elemR_B h hk.1 (Int.le_refl _) _ _ _ _ (by omega)]
  · rw [if_neg d, if_neg d]
theorem partsR_B {B C c : Int → Int} {len b o sh each : Int} (h : eqOn B C 0 len) : ∀ (m : Nat) (j pos : Int) (v : Int → Int), 0 ≤ pos → partsR B len b o sh c each m j pos v = partsR C len b o sh c each m j pos v
  | 0, _, _, _, _ => rfl
  | m + 1, j, pos, v, h0 => by
    show thenR (partR B len b o sh c (pst o each j) ((j + 1) * each) pos v) (fun p w => partsR B len b o sh c each m (j + 1) p w) = thenR (partR C len b o sh c (pst o each j) ((j + 1) * each) pos v) (fun p w => partsR C len b o sh c each m (j + 1) p w)
    exact thenR_cg (partR_B h h0) partR_ge (fun p w hp => partsR_B h m (j + 1) p w (by omega))
theorem valsR_B {B C : Int → Int} {len b : Int} (h : eqOn B C 0 len) (hb : 0 ≤ b) : ∀ (m : Nat) (i pos : Int) (v : Int → Int), 0 ≤ pos → valsR B len b m i pos v = valsR C len b m i pos v
  | 0, _, _, _, _ => rfl
  | m + 1, i, pos, v, h0 => getR_cg h h0 hb (fun q p hp _ => valsR_B h hb m (i + 1) p _ (by omega))
theorem restR_B {B C c : Int → Int} {len n b o sh pos : Int} {v : Int → Int} (h : eqOn B C 0 len) (hb : 0 ≤ b) (h0 : 0 ≤ pos) : restR B len n b o sh c pos v = restR C len n b o sh c pos v := by
  unfold restR
  exact thenR_cg (valsR_B h hb _ _ _ _ h0) (valsR_ge hb _ _ _ _) (fun p w hp => getR_cg h (by omega) (by decide) (fun q p2 hp2 _ => fltR_cg (partsR_B h _ _ _ _ (by omega))))
theorem foreR_B {B C c : Int → Int} {len n b kind pos : Int} {v : Int → Int} (h : eqOn B C 0 len) (hb : 0 ≤ b) (h0 : 0 ≤ pos) : foreR B len n b kind c pos v = foreR C len n b kind c pos v := by
  unfold foreR
  by_cases d : kind = 7
  · rw [if_pos d, if_pos d]
    exact getR_cg h h0 (by decide) (fun q p hp _ => fltR_cg (getR_cg h (by omega) (by decide) (fun sh p2 hp2 _ => thenR_cg (valsR_B h (by decide) _ _ _ _ (by omega)) (valsR_ge (by decide) _ _ _ _) (fun p3 c2 hp3 => restR_B h hb (by omega)))))
  · rw [if_neg d, if_neg d]
    exact fltR_cg (restR_B h hb h0)
theorem bodyR_B {B C c : Int → Int} {len n b kind pos : Int} {v : Int → Int} (h : eqOn B C 0 len) (hb : 0 ≤ b) (h0 : 0 ≤ pos) : bodyR B len n b kind c pos v = bodyR C len n b kind c pos v := by
  unfold bodyR
  by_cases d : kind = 0
  · rw [if_pos d, if_pos d]
    unfold likeR
    exact getR_cg h h0 hb (fun q p _ _ => rfl)
  · rw [if_neg d, if_neg d]
    by_cases e : kind = 1
    · rw [if_pos e, if_pos e]; exact valsR_B h hb _ _ _ _ h0
    · rw [if_neg e, if_neg e]; exact foreR_B h hb h0
theorem rowR_B {B C c : Int → Int} {len n rb pos : Int} {v : Int → Int} (h : eqOn B C 0 len) (h0 : 0 ≤ pos) : rowR B len n rb c pos v = rowR C len n rb c pos v := by
  unfold rowR
  refine getR_cg h h0 (by decide) (fun kind p hp _ => getR_cg h (by omega) (by decide) (fun w p2 hp2 _ => ?_))
  unfold fltR
  by_cases d : rb ≤ w
  · rw [if_pos d, if_pos d]
  · rw [if_neg d, if_neg d]
    rw [bodyR_B h (by omega) (by omega)]
theorem endR_B {B C : Int → Int} {len pl n ch tn sb kd0 kd1 pos : Int} {v0 v1 : Int → Int} (h : eqOn B C 0 len) (hl : 0 ≤ pl) (h0 : 0 ≤ pos) : endR B len pl n ch tn sb kd0 kd1 pos v0 v1 = endR C len pl n ch tn sb kd0 kd1 pos v0 v1 := by
  unfold endR
  refine getR_cg h h0 (by omega) (fun pad p hp hp1 => fltR_cg (getR_cg h (by omega) (by decide) (fun s p2 hp2 _ => ?_)))
  rw [crc_congr (B := B) (C := C) (p / 8 - pl).toNat (fun j a b => h j (by omega) (by omega))]
theorem rowR_3 {B c : Int → Int} {len n rb pos : Int} {v : Int → Int} (h : (rowR B len n rb c pos v).1 = 0) : pos + 3 ≤ 8 * len := by
  by_cases d : pos + 3 ≤ 8 * len
  · exact d
  · unfold rowR getR at h
    rw [if_neg d] at h
    exact absurd h (by show ¬ (1 : Int) = 0; decide)
theorem frF_B {B C : Int → Int} {len pl n ch tn sb p : Int} (h : eqOn B C 0 len) (hl : 0 ≤ pl) (h0 : 0 ≤ p) : frF B len pl n ch tn sb p = frF C len pl n ch tn sb p := by
  unfold frF
  rw [rowR_B h h0]
  have hg := rowR_ge (B := C) (c := z0) (len := len) (n := n) (rb := rbF tn sb) (pos := p) (v := z0)
  unfold thenR
  by_cases c : (rowR C len n (rbF tn sb) z0 p z0).1 = 0
  · have h3 := rowR_3 c
    have hg1 := hg c
    rw [if_pos c, if_pos c]
    generalize (rowR C len n (rbF tn sb) z0 p z0).2.1 = p1 at hg1 ⊢
    generalize (rowR C len n (rbF tn sb) z0 p z0).2.2 = v0
    dsimp only
    by_cases c2 : ch = 2
    · rw [if_pos c2, if_pos c2, rowR_B h (show 0 ≤ p1 by omega)]
      have hh := rowR_ge (B := C) (c := z0) (len := len) (n := n) (rb := rbS tn sb) (pos := p1) (v := z0)
      by_cases d : (rowR C len n (rbS tn sb) z0 p1 z0).1 = 0
      · have h4 := rowR_3 d
        have hh1 := hh d
        rw [if_pos d, if_pos d, num_cg h h0 3 (by omega), num_cg h (by omega) 3 (by omega), endR_B h hl (by omega)]
      · rw [if_neg d, if_neg d]
    · rw [if_neg c2, if_neg c2, num_cg h h0 3 (by omega), endR_B h hl (by omega)]
  · rw [if_neg c, if_neg c]
theorem frR_B {B C : Int → Int} {len pl : Int} (h : eqOn B C 0 len) (hl : 0 ≤ pl) : frR B len pl = frR C len pl := by
  show hdR B len (8 * pl) (frF B len pl) = hdR C len (8 * pl) (frF C len pl)
  unfold hdR
  exact getR_cg h (by omega) (by decide) (fun a p hp _ => fltR_cg (getR_cg h (by omega) (by decide) (fun c p2 hp2 _ => getR_cg h (by omega) (by decide) (fun t p3 hp3 _ => fltR_cg (getR_cg h (by omega) (by decide) (fun s p4 hp4 _ => frF_B h hl (by omega)))))))
def geF (r : Int × FB) : Prop := r.1 = 0 → 0 ≤ r.2.2.2.2.2.2.2.1
theorem geF_get {B : Int → Int} {len bits pos : Int} {f : Int → Int → Int × FB} (hb : 0 ≤ bits) (h : ∀ q p, pos ≤ p → geF (f q p)) : geF (getR B len bits pos f) := by
  unfold getR
  by_cases c : pos + bits ≤ 8 * len
  · rw [if_pos c]; exact h _ _ (by omega)
  · rw [if_neg c]; exact fun z => absurd z (by show ¬ (1 : Int) = 0; decide)
theorem geF_flt {c : Prop} [Decidable c] {e : Int} {f : Int × FB} (he : ¬ e = 0) (h : geF f) : geF (fltR c e f) := by
  unfold fltR
  by_cases d : c
  · rw [if_pos d]; exact fun z => absurd z he
  · rw [if_neg d]; exact h
theorem geF_then {r : RR} {pos : Int} {f : Int → (Int → Int) → Int × FB} (hg : geR pos r) (h : ∀ p v, pos ≤ p → geF (f p v)) : geF (thenR r f) := by
  unfold thenR
  by_cases c : r.1 = 0
  · rw [if_pos c]; exact h _ _ (hg c)
  · rw [if_neg c]; exact fun z => absurd z c
theorem endR_ge {B : Int → Int} {len pl n ch tn sb kd0 kd1 pos : Int} {v0 v1 : Int → Int} (h0 : 0 ≤ pos) : geF (endR B len pl n ch tn sb kd0 kd1 pos v0 v1) := by
  unfold endR
  refine geF_get (by omega) (fun pad p hp => geF_flt (by decide) (geF_get (by decide) (fun s p2 hp2 => geF_flt (by decide) (geF_flt (by decide) (fun _ => ?_)))))
  show 0 ≤ p2 / 8
  omega
theorem frR_ge {B : Int → Int} {len pl : Int} (hl : 0 ≤ pl) : geF (frR B len pl) := by
  show geF (hdR B len (8 * pl) (frF B len pl))
  unfold hdR
  refine geF_get (by decide) (fun a p hp => geF_flt (by decide) (geF_get (by decide) (fun c p2 hp2 => geF_get (by decide) (fun t p3 hp3 => geF_flt (by decide) (geF_get (by decide) (fun s p4 hp4 => ?_))))))
  unfold frF
  refine geF_then rowR_ge (fun p1 v0 hp1 => ?_)
  by_cases c2 : 1 + c = 2
  · rw [if_pos c2]; exact geF_then rowR_ge (fun p2 v1 hp2 => endR_ge (by omega))
  · rw [if_neg c2]; exact endR_ge (by omega)
theorem frN_B {B C : Int → Int} {len : Int} (h : eqOn B C 0 len) : ∀ (m : Nat) (pl g : Int), 0 ≤ pl → frN B len m pl g = frN C len m pl g
  | 0, _, _, _ => rfl
  | m + 1, pl, g, hl => by
    show (if len ≤ pl then g else if (frR B len pl).1 = 0 then frN B len m (frR B len pl).2.2.2.2.2.2.2.1 (g + 1) else -10 - g) = (if len ≤ pl then g else if (frR C len pl).1 = 0 then frN C len m (frR C len pl).2.2.2.2.2.2.2.1 (g + 1) else -10 - g)
    rw [frR_B h hl]
    by_cases c : len ≤ pl
    · rw [if_pos c, if_pos c]
    · rw [if_neg c, if_neg c]
      by_cases d : (frR C len pl).1 = 0
      · rw [if_pos d, if_pos d, frN_B h m _ _ (frR_ge hl d)]
      · rw [if_neg d, if_neg d]
