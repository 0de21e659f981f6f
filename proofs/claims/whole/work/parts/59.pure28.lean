/-! ===== the other side's reading ===== -/
def rdB (B : Int → Int) (len fa pos r fa2 pos2 : Int) : Prop := (fa = 0 ∧ pos < 8 * len → fa2 = 0 ∧ pos2 = pos + 1 ∧ r = bitAt B pos) ∧ (¬ (fa = 0 ∧ pos < 8 * len) → fa2 = (if fa = 0 then 1 else fa) ∧ pos2 = pos ∧ r = 0)
def rdM (B : Int → Int) (len fa pos bits r fa2 pos2 : Int) : Prop := (fa = 0 ∧ pos + bits ≤ 8 * len → fa2 = 0 ∧ pos2 = pos + bits ∧ r = num B pos bits.toNat) ∧ (¬ (fa = 0 ∧ pos + bits ≤ 8 * len) → fa2 = (if fa = 0 then 1 else fa)) ∧ (¬ fa = 0 → r = 0) ∧ (0 ≤ r ∧ r < 2 ^ bits.toNat) ∧ (pos ≤ pos2 ∧ pos2 ≤ 8 * len)
theorem rdM_0 {B : Int → Int} {len fa pos : Int} (h : pos ≤ 8 * len) : rdM B len fa pos 0 0 fa pos := by
  refine ⟨fun c => ⟨c.1, by omega, rfl⟩, fun c => ?_, fun _ => rfl, by decide, by omega⟩
  rw [if_neg (fun q => c ⟨q, by omega⟩)]
theorem rdB_in {B : Int → Int} {len fa pos r fa2 pos2 : Int} (h : rdB B len fa pos r fa2 pos2) : 0 ≤ r ∧ r ≤ 1 := by
  by_cases c : fa = 0 ∧ pos < 8 * len
  · have z := (h.1 c).2.2
    have y := bitAt_01 B pos
    omega
  · have z := (h.2 c).2.2
    omega
theorem rdM_step {B : Int → Int} {len fa pos k v f1 p1 bt f2 p2 : Int} (hk : 0 ≤ k) (h : rdM B len fa pos k v f1 p1) (hb : rdB B len f1 p1 bt f2 p2) : rdM B len fa pos (k + 1) (2 * v + bt) f2 p2 := by
  obtain ⟨h1, h2, h3, h4, h5⟩ := h
  have hbi := rdB_in hb
  have e2 : (2 : Int) ^ (k + 1).toNat = 2 * 2 ^ k.toNat := by rw [show (k + 1).toNat = k.toNat + 1 by omega, Int.pow_succ, Int.mul_comm]
  refine ⟨fun c => ?_, fun c => ?_, fun c => ?_, by rw [e2]; omega, ?_⟩
  · obtain ⟨a1, a2, a3⟩ := h1 ⟨c.1, by omega⟩
    obtain ⟨b1, b2, b3⟩ := hb.1 ⟨a1, by omega⟩
    refine ⟨b1, by omega, ?_⟩
    rw [b3, a2]; exact num_step hk a3
  · by_cases d : fa = 0
    · rw [if_pos d]
      by_cases e : pos + k ≤ 8 * len
      · obtain ⟨a1, a2, a3⟩ := h1 ⟨d, e⟩
        have := (hb.2 (fun q => c ⟨d, by omega⟩)).1
        rw [if_pos a1] at this; exact this
      · have a := h2 (fun q => e q.2)
        rw [if_pos d] at a
        have := (hb.2 (fun q => by omega)).1
        rw [if_neg (by omega)] at this; omega
    · rw [if_neg d]
      have a := h2 (fun q => d q.1)
      rw [if_neg d] at a
      have := (hb.2 (fun q => by omega)).1
      rw [if_neg (by omega)] at this; omega
  · have a := h2 (fun q => c q.1)
    rw [if_neg c] at a
    have b := (hb.2 (fun q => by omega)).2.2
    have := h3 c
    omega
  · by_cases d : f1 = 0 ∧ p1 < 8 * len
    · have := (hb.1 d).2.1; omega
    · have := (hb.2 d).2.1; omega
theorem rdM_fa {B : Int → Int} {len fa pos bits r f2 p2 : Int} (h : rdM B len fa pos bits r f2 p2) : f2 = 0 ∨ f2 = 1 ∨ f2 = fa := by
  by_cases c : fa = 0 ∧ pos + bits ≤ 8 * len
  · exact Or.inl (h.1 c).1
  · have a := h.2.1 c
    by_cases d : fa = 0
    · rw [if_pos d] at a; omega
    · rw [if_neg d] at a; omega
theorem rdM_st {B : Int → Int} {len fa pos bits r f2 p2 : Int} (h : rdM B len fa pos bits r f2 p2) (h0 : f2 = 0) : fa = 0 ∧ p2 = pos + bits ∧ r = num B pos bits.toNat := by
  by_cases c : fa = 0 ∧ pos + bits ≤ 8 * len
  · exact ⟨c.1, (h.1 c).2⟩
  · have a := h.2.1 c
    by_cases d : fa = 0
    · rw [if_pos d] at a; omega
    · rw [if_neg d] at a; omega
theorem rdM_no {B : Int → Int} {len fa pos bits r f2 p2 : Int} (h : rdM B len fa pos bits r f2 p2) (h0 : ¬ fa = 0) : f2 = fa := by
  have a := h.2.1 (fun q => h0 q.1)
  rw [if_neg h0] at a; exact a
theorem cM_get {β : Type} [Inhabited β] {R : Int × β} {B : Int → Int} {len fa pos bits r fa2 pos2 : Int} {f : Int → Int → Int × β} (h : contI R fa (getR B len bits pos f)) (hr : rdM B len fa pos bits r fa2 pos2) : contI R fa2 (f r pos2) := by
  by_cases c : fa = 0 ∧ pos + bits ≤ 8 * len
  · obtain ⟨a1, a2, a3⟩ := hr.1 c
    refine cI_0 a1 ?_
    rw [h.1 c.1, a2, a3]
    unfold getR
    rw [if_pos c.2]
  · have a1 := hr.2.1 c
    by_cases d : fa = 0
    · rw [if_pos d] at a1
      refine ⟨fun k => by omega, fun _ => ?_⟩
      rw [h.1 d, a1]
      unfold getR
      rw [if_neg (fun k => c ⟨d, k⟩)]
    · rw [if_neg d] at a1
      refine ⟨fun k => by omega, fun _ => ?_⟩
      rw [h.2 d, a1]
theorem thenR_get {β : Type} [Inhabited β] {B : Int → Int} {len bits pos : Int} {f : Int → Int → RR} {G : Int → (Int → Int) → Int × β} : thenR (getR B len bits pos f) G = getR B len bits pos (fun q p => thenR (f q p) G) := by
  unfold getR
  by_cases c : pos + bits ≤ 8 * len
  · rw [if_pos c, if_pos c]
  · rw [if_neg c, if_neg c]
    unfold thenR
    rw [if_neg (by decide)]
theorem thenR_flt {β : Type} [Inhabited β] {c : Prop} [Decidable c] {e : Int} {f : RR} {G : Int → (Int → Int) → Int × β} (he : ¬ e = 0) : thenR (fltR c e f) G = fltR c e (thenR f G) := by
  unfold fltR
  by_cases d : c
  · rw [if_pos d, if_pos d]
    unfold thenR
    rw [if_neg he]
  · rw [if_neg d, if_neg d]
theorem thenR_0 {β : Type} [Inhabited β] {p : Int} {v : Int → Int} {G : Int → (Int → Int) → Int × β} : thenR (0, p, v) G = G p v := if_pos rfl
theorem cI_any {β : Type} {R rest rest2 : Int × β} {fa : Int} (h : contI R fa rest) (d : ¬ fa = 0) : contI R fa rest2 := ⟨fun q => absurd q d, fun _ => h.2 d⟩
theorem cI_isR {R X : RR} {fa fa2 pos2 : Int} {v2 : Int → Int} (h : contI R fa X) (hr : isR (sR fa X) fa2 pos2 v2) : isR R fa2 pos2 v2 := by
  obtain ⟨h1, h2⟩ := hr
  unfold sR at h1 h2
  by_cases d : fa = 0
  · rw [if_pos d] at h1 h2
    rw [h.1 d]; exact ⟨h1, h2⟩
  · rw [if_neg d] at h1
    have h1 : fa2 = fa := h1
    exact ⟨by rw [h.2 d, h1], fun q => absurd q (by omega)⟩
theorem valsM_step {R : RR} {B : Int → Int} {len b f1 p r f2 p2 i n : Int} {v : Int → Int} (h : contI R f1 (valsR B len b (n - i).toNat i p v)) (hi : i < n) (hr : rdM B len f1 p b r f2 p2) : contI R f2 (valsR B len b (n - (i + 1)).toNat (i + 1) p2 (zup v i (sgn r b))) := by
  rw [show (n - i).toNat = (n - (i + 1)).toNat + 1 by omega] at h
  exact cM_get (f := fun q p => valsR B len b (n - (i + 1)).toNat (i + 1) p (zup v i (sgn q b))) h hr
theorem valsT_step {β : Type} [Inhabited β] {R : Int × β} {G : Int → (Int → Int) → Int × β} {B : Int → Int} {len b f1 p r f2 p2 i n : Int} {v : Int → Int} (h : contI R f1 (thenR (valsR B len b (n - i).toNat i p v) G)) (hi : i < n) (hr : rdM B len f1 p b r f2 p2) : contI R f2 (thenR (valsR B len b (n - (i + 1)).toNat (i + 1) p2 (zup v i (sgn r b))) G) := by
  rw [show (n - i).toNat = (n - (i + 1)).toNat + 1 by omega] at h
  have e : thenR (valsR B len b ((n - (i + 1)).toNat + 1) i p v) G = getR B len b p (fun q p => thenR (valsR B len b (n - (i + 1)).toNat (i + 1) p (zup v i (sgn q b))) G) := thenR_get
  rw [e] at h
  exact cM_get (f := fun q p => thenR (valsR B len b (n - (i + 1)).toNat (i + 1) p (zup v i (sgn q b))) G) h hr
theorem valsT_0 {β : Type} [Inhabited β] {R : Int × β} {G : Int → (Int → Int) → Int × β} {B : Int → Int} {len b f1 p i n : Int} {v : Int → Int} (h : contI R f1 (thenR (valsR B len b (n - i).toNat i p v) G)) (hi : n ≤ i) : contI R f1 (G p v) := by
  rw [show (n - i).toNat = 0 by omega] at h
  have e : thenR (valsR B len b 0 i p v) G = G p v := thenR_0
  rw [e] at h
  exact h
theorem sgn_M {r b : Int} (hb : 0 ≤ b) (h : 0 ≤ r ∧ r < 2 ^ b.toNat) : sgn r b = if r < 2 ^ (b - 1).toNat then r else r - 2 ^ b.toNat := by
  unfold sgn
  rw [Int.emod_eq_of_lt h.1 h.2]
theorem restM_15 {B : Int → Int} {len k xx pos r0 fa fa2 pos2 : Int} (hk : k = 15) (hf : fa = 0) (h : rdM B len fa pos xx r0 fa2 pos2) : isRest B len k xx pos (sgn r0 xx) fa2 pos2 := by
  unfold isRest restAt
  rw [if_pos hk]
  by_cases c : pos + xx ≤ 8 * len
  · rw [if_pos c]
    obtain ⟨a1, a2, a3⟩ := h.1 ⟨hf, c⟩
    rw [a3]
    exact ⟨a1, fun _ => ⟨rfl, a2⟩⟩
  · rw [if_neg c]
    have a1 := h.2.1 (fun q => c q.2)
    rw [if_pos hf] at a1
    exact ⟨a1, fun q => by omega⟩
theorem rfM_end {B : Int → Int} {len k pos hh p r1 f1 p1 r2 f2 p2 : Int} (hp : p = pos + hh) (hfr : frun B len (2 ^ (24 - k).toNat) pos = frun B len ((2 ^ (24 - k).toNat : Int) - hh).toNat p) (hh2 : hh < 2 ^ (24 - k).toNat) (hb : rdB B len 0 p r1 f1 p1) (c : ¬ r1 = 1) (hn : rdM B len f1 p1 k r2 f2 p2) : f2 = (rfold B len k pos).1 ∧ (f2 = 0 → unf (hh * 2 ^ k.toNat + r2) = (rfold B len k pos).2.1 ∧ p2 = (rfold B len k pos).2.2) := by
  have hbi := rdB_in hb
  unfold rfold
  by_cases d : p < 8 * len
  · obtain ⟨a1, a2, a3⟩ := hb.1 ⟨rfl, d⟩
    rw [hfr, frun_ok (R := frun B len ((2 ^ (24 - k).toNat : Int) - hh).toNat p) rfl (by omega) (by omega) (by omega)]
    rw [if_neg (by simp)]
    show f2 = (if p + 1 + k ≤ 8 * len then (0, unf ((p + 1 - 1 - pos) * 2 ^ k.toNat + num B (p + 1) k.toNat), p + 1 + k) else (1, 0, p + 1) : Int × Int × Int).1 ∧ (f2 = 0 → unf (hh * 2 ^ k.toNat + r2) = (if p + 1 + k ≤ 8 * len then (0, unf ((p + 1 - 1 - pos) * 2 ^ k.toNat + num B (p + 1) k.toNat), p + 1 + k) else (1, 0, p + 1) : Int × Int × Int).2.1 ∧ p2 = (if p + 1 + k ≤ 8 * len then (0, unf ((p + 1 - 1 - pos) * 2 ^ k.toNat + num B (p + 1) k.toNat), p + 1 + k) else (1, 0, p + 1) : Int × Int × Int).2.2)
    by_cases e : p + 1 + k ≤ 8 * len
    · rw [if_pos e]
      obtain ⟨b1, b2, b3⟩ := hn.1 ⟨a1, by omega⟩
      refine ⟨b1, fun _ => ⟨?_, by show p2 = p + 1 + k; omega⟩⟩
      show unf (hh * 2 ^ k.toNat + r2) = unf ((p + 1 - 1 - pos) * 2 ^ k.toNat + num B (p + 1) k.toNat)
      rw [b3, a2, show p + 1 - 1 - pos = hh by omega]
    · rw [if_neg e]
      have b := hn.2.1 (fun q => e (by omega))
      rw [if_pos a1] at b
      exact ⟨b, fun q => by omega⟩
  · obtain ⟨a1, a2, a3⟩ := hb.2 (fun q => d q.2)
    rw [hfr, frun_end (R := frun B len ((2 ^ (24 - k).toNat : Int) - hh).toNat p) rfl (by omega) (by omega)]
    rw [if_pos (by show (1 : Int) ≠ 0; decide)]
    have b := rdM_no hn (by rw [a1]; decide)
    rw [if_pos rfl] at a1
    exact ⟨by show f2 = 1; omega, fun q => by omega⟩
theorem elemT_step {β : Type} [Inhabited β] {R : Int × β} {G : Int → (Int → Int) → Int × β} {B c : Int → Int} {len b k xx o sh f1 p r f2 f3 p2 i n wr : Int} {v : Int → Int} (h : contI R f1 (thenR (elemR B len b k xx o sh c (n - i).toNat i p v) G)) (h0 : f1 = 0) (hi : i < n) (hr : isRest B len k xx p r f2 p2) (hf : f3 = fltIf wr f2 8) (hw : (¬ wr = 0 ∧ ¬ fit (ft c v o sh i + r) b) ∨ (wr = 0 ∧ fit (ft c v o sh i + r) b)) : contI R f3 (thenR (elemR B len b k xx o sh c (n - (i + 1)).toNat (i + 1) p2 (zup v i (ft c v o sh i + r))) G) := by
  rw [show (n - i).toNat = (n - (i + 1)).toNat + 1 by omega] at h
  have h1 := h.1 h0
  have h2 : R = thenR (if (restAt B len k xx p).1 = 0 then fltR (¬ fit (ft c v o sh i + (restAt B len k xx p).2.1) b) 8 (elemR B len b k xx o sh c (n - (i + 1)).toNat (i + 1) (restAt B len k xx p).2.2 (zup v i (ft c v o sh i + (restAt B len k xx p).2.1))) else ((restAt B len k xx p).1, default)) G := h1
  by_cases d : f2 = 0
  · obtain ⟨e1, e2⟩ := hr.2 d
    have e3 := hr.1
    rw [if_pos (by omega), ← e1, ← e2, thenR_flt (by decide)] at h2
    refine cI_flt (cI_0 d h2) hf (by decide) ?_
    rcases hw with q | q
    · exact Or.inl q
    · exact Or.inr ⟨q.1, fun z => z q.2⟩
  · have e3 := hr.1
    rw [if_neg (by omega)] at h2
    have e4 : f3 = f2 := by
      rw [hf]; unfold fltIf
      rw [if_neg (fun z => d z.2)]
    refine ⟨fun q => by omega, fun _ => ?_⟩
    rw [h2]
    unfold thenR
    rw [if_neg (by show ¬ (restAt B len k xx p).1 = 0; omega)]
    show (restAt B len k xx p).1 = f3
    omega
/-! one road through all parts -/
def mxo (i o : Int) : Int := if i < o then o else i
def gR (B : Int → Int) (len b o sh : Int) (c : Int → Int) (each cnt j : Int) : Int → (Int → Int) → RR := fun p w => partsR B len b o sh c each (cnt - (j + 1)).toNat (j + 1) p w
def midR (B : Int → Int) (len b o sh : Int) (c : Int → Int) (each cnt k xx i pl : Int) (v : Int → Int) : RR := thenR (elemR B len b k xx o sh c ((i / each + 1) * each - mxo i o).toNat (mxo i o) pl v) (gR B len b o sh c each cnt (i / each))
def hdI (B : Int → Int) (len b o sh : Int) (c : Int → Int) (each cnt k xx i pl : Int) (v : Int → Int) : RR := if i % each = 0 then partsR B len b o sh c each (cnt - i / each).toNat (i / each) pl v else midR B len b o sh c each cnt k xx i pl v
def kxI (B : Int → Int) (len b o sh : Int) (c : Int → Int) (each cnt i : Int) (v : Int → Int) (k p : Int) : RR := if k = 15 then getR B len 5 p (fun xx p2 => fltR (24 < xx) 7 (midR B len b o sh c each cnt k xx i p2 v)) else fltR (24 < (0 : Int)) 7 (midR B len b o sh c each cnt k 0 i p v)
theorem div_is {x each q : Int} (he : 1 ≤ each) (h1 : q * each ≤ x) (h2 : x < (q + 1) * each) : x / each = q := by
  have a : q ≤ x / each := (Int.le_ediv_iff_mul_le (by omega)).mpr h1
  have b : x / each < q + 1 := (Int.ediv_lt_iff_lt_mul (by omega)).mpr h2
  omega
theorem div_at {i each : Int} (he : 1 ≤ each) : i / each * each ≤ i ∧ i < (i / each + 1) * each ∧ (i / each + 1) * each = i / each * each + each ∧ i = i / each * each + i % each ∧ 0 ≤ i % each ∧ i % each < each := by
  have a := Int.mul_ediv_add_emod i each
  have b := Int.emod_nonneg i (show each ≠ 0 by omega)
  have c := Int.emod_lt_of_pos i (show 0 < each by omega)
  have d : each * (i / each) = i / each * each := Int.mul_comm _ _
  have e : (i / each + 1) * each = i / each * each + each := by rw [Int.add_mul, Int.one_mul]
  omega
theorem part_in {R : RR} {B c : Int → Int} {len b o sh each cnt i fa pl k xx : Int} {v : Int → Int} (hi0 : 0 ≤ i) (hi : i % each = 0) (he : 1 ≤ each) (ho : 0 ≤ o ∧ o ≤ each) (hc : i / each < cnt) (h : contI R fa (hdI B len b o sh c each cnt k xx i pl v)) : contI R fa (getR B len 4 pl (kxI B len b o sh c each cnt i v)) := by
  have hd := div_at (i := i) he
  have hj : 0 ≤ i / each := Int.ediv_nonneg hi0 (by omega)
  have hp : pst o each (i / each) = mxo i o := by
    unfold pst mxo
    by_cases q : i / each = 0
    · rw [if_pos q]
      rw [q] at hd
      by_cases z : i < o
      · rw [if_pos z]
      · rw [if_neg z]; omega
    · rw [if_neg q]
      have : each ≤ i / each * each := by
        have := mul_le_r (a := 1) (b := i / each) (c := each) (by omega) (by omega)
        rw [Int.one_mul] at this; exact this
      rw [if_neg (by omega)]; omega
  unfold hdI at h
  rw [if_pos hi, show (cnt - i / each).toNat = (cnt - (i / each + 1)).toNat + 1 by omega] at h
  have e : partsR B len b o sh c each ((cnt - (i / each + 1)).toNat + 1) (i / each) pl v = getR B len 4 pl (fun k p => thenR (xR B len b o sh c (pst o each (i / each)) ((i / each + 1) * each) v k p) (gR B len b o sh c each cnt (i / each))) := thenR_get
  rw [e] at h
  have f : (fun k p => thenR (xR B len b o sh c (pst o each (i / each)) ((i / each + 1) * each) v k p) (gR B len b o sh c each cnt (i / each))) = kxI B len b o sh c each cnt i v := by
    funext k p
    unfold kxI xR
    by_cases q : k = 15
    · rw [if_pos q, if_pos q, thenR_get]
      congr 1
      funext xx p2
      unfold xT midR
      rw [thenR_flt (by decide), hp]
    · rw [if_neg q, if_neg q]
      unfold xT midR
      rw [thenR_flt (by decide), hp]
  rw [f] at h
  exact h
theorem mid_of {R : RR} {B c : Int → Int} {len b o sh each cnt i fa pl k xx : Int} {v : Int → Int} (hi : ¬ i % each = 0) (h : contI R fa (hdI B len b o sh c each cnt k xx i pl v)) : contI R fa (midR B len b o sh c each cnt k xx i pl v) := by
  unfold hdI at h
  rw [if_neg hi] at h
  exact h
theorem mid_next {R : RR} {B c : Int → Int} {len b o sh each cnt i fa pl k xx : Int} {v : Int → Int} (he : 1 ≤ each) (ho : 0 ≤ o ∧ o ≤ each) (hi0 : 0 ≤ i) (h : contI R fa (thenR (elemR B len b k xx o sh c ((i / each + 1) * each - mxo (i + 1) o).toNat (mxo (i + 1) o) pl v) (gR B len b o sh c each cnt (i / each)))) : contI R fa (hdI B len b o sh c each cnt k xx (i + 1) pl v) := by
  have hd := div_at (i := i) he
  have hj : 0 ≤ i / each * each := Int.mul_nonneg (Int.ediv_nonneg hi0 (by omega)) (by omega)
  unfold hdI
  have e3 : (i / each + 1 + 1) * each = (i / each + 1) * each + each := by rw [Int.add_mul (i / each + 1), Int.one_mul]
  by_cases cc : i + 1 < (i / each + 1) * each
  · have q : (i + 1) / each = i / each := div_is he (by omega) (by omega)
    have hd2 := div_at (i := i + 1) he
    rw [q] at hd2
    rw [if_neg (by omega)]
    unfold midR
    rw [q]; exact h
  · have q : (i + 1) / each = i / each + 1 := div_is he (by omega) (by omega)
    have hd2 := div_at (i := i + 1) he
    rw [q] at hd2
    rw [if_pos (by omega), q]
    have m : mxo (i + 1) o = i + 1 := by
      unfold mxo
      by_cases z : i + 1 < o
      · omega
      · rw [if_neg z]
    rw [m, show ((i / each + 1) * each - (i + 1)).toNat = 0 by omega] at h
    have e : thenR (elemR B len b k xx o sh c 0 (i + 1) pl v) (gR B len b o sh c each cnt (i / each)) = gR B len b o sh c each cnt (i / each) pl v := thenR_0
    rw [e] at h
    exact h
theorem mid_skip {B c : Int → Int} {len b o sh each cnt i pl k xx : Int} {v : Int → Int} (hi : i < o) : midR B len b o sh c each cnt k xx i pl v = thenR (elemR B len b k xx o sh c ((i / each + 1) * each - mxo (i + 1) o).toNat (mxo (i + 1) o) pl v) (gR B len b o sh c each cnt (i / each)) := by
  have e : mxo i o = mxo (i + 1) o := by
    unfold mxo
    rw [if_pos hi]
    by_cases c : i + 1 < o
    · rw [if_pos c]
    · rw [if_neg c]; omega
  unfold midR
  rw [e]
theorem mid_elem {B c : Int → Int} {len b o sh each cnt i pl k xx : Int} {v : Int → Int} (hi : ¬ i < o) : midR B len b o sh c each cnt k xx i pl v = thenR (elemR B len b k xx o sh c ((i / each + 1) * each - i).toNat i pl v) (gR B len b o sh c each cnt (i / each)) ∧ mxo (i + 1) o = i + 1 := by
  have e : mxo i o = i := if_neg hi
  refine ⟨?_, if_neg (by omega)⟩
  unfold midR
  rw [e]
theorem hd_end {R : RR} {B c : Int → Int} {len b o sh each cnt n i fa pl k xx : Int} {v : Int → Int} (he : 1 ≤ each) (hn : n = cnt * each) (hi : i = n) (h : contI R fa (hdI B len b o sh c each cnt k xx i pl v)) : contI R fa (0, pl, v) := by
  have e3 : (cnt + 1) * each = cnt * each + each := by rw [Int.add_mul, Int.one_mul]
  have q : i / each = cnt := div_is he (by omega) (by omega)
  have hd := div_at (i := i) he
  unfold hdI at h
  rw [q] at hd
  rw [if_pos (by omega), q, show (cnt - cnt).toNat = 0 by omega] at h
  exact h
theorem sh_up {f : Int → Int} {a i z : Int} : (fun j => zup f (a + i) z (a + j)) = zup (fun j => f (a + j)) i z := by
  funext j
  unfold zup
  by_cases c : j = i
  · rw [if_pos (by omega), if_pos c]
  · rw [if_neg (by omega), if_neg c]
theorem flt_yes {fa e : Int} : (if fa = 0 then e else fa) = fltIf 1 fa e := by
  unfold fltIf
  by_cases c : fa = 0
  · rw [if_pos c, if_pos ⟨by decide, c⟩]
  · rw [if_neg c, if_neg (fun q => c q.2)]
theorem flt_no (fa e : Int) : fa = fltIf 0 fa e := by
  unfold fltIf
  rw [if_neg (fun q => q.1 rfl)]
theorem fit_sgn {r b : Int} (hb : 1 ≤ b) : fit (sgn r b) b := sgn_fit hb
theorem sgn_24 {r b : Int} (hb : 0 ≤ b ∧ b ≤ 24) (h : 0 ≤ r ∧ r < 2 ^ b.toNat) : -16777216 ≤ sgn r b ∧ sgn r b ≤ 16777216 := by
  have p := pw_le (k := b) 24 hb.2
  rw [show (2 : Int) ^ 24 = 16777216 by decide] at p
  rw [sgn_M hb.1 h]
  by_cases c : r < 2 ^ (b - 1).toNat
  · rw [if_pos c]; omega
  · rw [if_neg c]; omega
