/-! ===== reading: congruence, bounds, the frame ===== -/
def eqR (n : Int) (r s : RR) : Prop := r.1 = s.1 ∧ (r.1 = 0 → r.2.1 = s.2.1 ∧ eqOn r.2.2 s.2.2 0 n)
theorem eqR_same (n : Int) (r : RR) : eqR n r r := ⟨rfl, fun _ => ⟨rfl, fun _ _ _ => rfl⟩⟩
theorem eqR_less {n m : Int} {r s : RR} (h : eqR n r s) (hm : m ≤ n) : eqR m r s := ⟨h.1, fun k => ⟨(h.2 k).1, fun j h1 h2 => (h.2 k).2 j h1 (by omega)⟩⟩
theorem eqR_get {n : Int} {B : Int → Int} {len bits pos : Int} {f g : Int → Int → RR} (h : ∀ q, 0 ≤ q → q < 2 ^ bits.toNat → ∀ p, eqR n (f q p) (g q p)) : eqR n (getR B len bits pos f) (getR B len bits pos g) := by
  unfold getR
  by_cases c : pos + bits ≤ 8 * len
  · rw [if_pos c, if_pos c]; exact h _ (num_in _ _ _).1 (num_in _ _ _).2 _
  · rw [if_neg c, if_neg c]; exact eqR_same _ _
theorem eqR_flt {n : Int} {c : Prop} [Decidable c] {e : Int} {f g : RR} (h : ¬ c → eqR n f g) : eqR n (fltR c e f) (fltR c e g) := by
  unfold fltR
  by_cases k : c
  · rw [if_pos k, if_pos k]; exact eqR_same _ _
  · rw [if_neg k, if_neg k]; exact h k
theorem eqR_then {n m : Int} {r s : RR} {f g : Int → (Int → Int) → RR} (hr : eqR m r s) (h : ∀ p v w, eqOn v w 0 m → eqR n (f p v) (g p w)) : eqR n (thenR r f) (thenR s g) := by
  unfold thenR
  by_cases k : r.1 = 0
  · rw [if_pos k, if_pos (by have := hr.1; omega), (hr.2 k).1]; exact h _ _ _ (hr.2 k).2
  · rw [if_neg k, if_neg (by have := hr.1; omega), hr.1]; exact eqR_same _ _
theorem eqOn_up {v w : Int → Int} {i z : Int} (h : eqOn v w 0 i) : eqOn (zup v i z) (zup w i z) 0 (i + 1) := by
  intro j h1 h2
  by_cases e : j = i
  · rw [e, zup_s, zup_s]
  · rw [zup_n e, zup_n e]; exact h j h1 (by omega)
theorem fsum_cg {c d v w : Int → Int} {i : Int} : ∀ n : Nat, (n : Int) ≤ i → eqOn c d 0 n → eqOn v w 0 i → fsum c v i n = fsum d w i n
  | 0, _, _, _ => rfl
  | n + 1, hn, hc, hv => by
    show fsum c v i n + c n * v (i - 1 - n) = fsum d w i n + d n * w (i - 1 - n)
    rw [fsum_cg n (by omega) (fun j h1 h2 => hc j h1 (by omega)) hv, hc n (by omega) (by omega), hv (i - 1 - n) (by omega) (by omega)]
theorem ft_cg {c d v w : Int → Int} {o sh i : Int} (ho : 0 ≤ o ∧ o ≤ i) (hc : eqOn c d 0 o) (hv : eqOn v w 0 i) : ft c v o sh i = ft d w o sh i := by
  unfold ft
  rw [fsum_cg o.toNat (by omega) (fun j h1 h2 => hc j h1 (by omega)) hv]
theorem valsR_cg {B : Int → Int} {len b : Int} : ∀ (m : Nat) (i pos : Int) (v w : Int → Int), eqOn v w 0 i → eqR (i + m) (valsR B len b m i pos v) (valsR B len b m i pos w)
  | 0, i, pos, v, w, h => ⟨rfl, fun _ => ⟨rfl, fun j h1 h2 => h j h1 (by omega)⟩⟩
  | m + 1, i, pos, v, w, h => by
    refine eqR_get (fun q _ _ p => ?_)
    have := valsR_cg (B := B) (len := len) (b := b) m (i + 1) p (zup v i (sgn q b)) (zup w i (sgn q b)) (eqOn_up h)
    rw [show i + ((m + 1 : Nat) : Int) = i + 1 + m by omega]
    exact this
theorem elemR_cg {B c d : Int → Int} {len b k xx o sh : Int} (ho : 0 ≤ o) (hc : eqOn c d 0 o) : ∀ (m : Nat) (i pos : Int) (v w : Int → Int), o ≤ i → eqOn v w 0 i → eqR (i + m) (elemR B len b k xx o sh c m i pos v) (elemR B len b k xx o sh d m i pos w)
  | 0, i, pos, v, w, _, h => ⟨rfl, fun _ => ⟨rfl, fun j h1 h2 => h j h1 (by omega)⟩⟩
  | m + 1, i, pos, v, w, hi, h => by
    show eqR _ (if _ then _ else _) (if _ then _ else _)
    rw [ft_cg (sh := sh) ⟨ho, hi⟩ hc h]
    by_cases z : (restAt B len k xx pos).1 = 0
    · rw [if_pos z, if_pos z]
      refine eqR_flt (fun _ => ?_)
      have := elemR_cg (B := B) (len := len) (b := b) (k := k) (xx := xx) (sh := sh) ho hc m (i + 1) (restAt B len k xx pos).2.2 _ _ (by omega) (eqOn_up (z := ft d w o sh i + (restAt B len k xx pos).2.1) h)
      rw [show i + ((m + 1 : Nat) : Int) = i + 1 + m by omega]
      exact this
    · rw [if_neg z, if_neg z]; exact eqR_same _ _
theorem partR_cg {B c d : Int → Int} {len b o sh fr to pos : Int} {v w : Int → Int} (ho : 0 ≤ o ∧ o ≤ fr) (hf : fr ≤ to) (hc : eqOn c d 0 o) (h : eqOn v w 0 fr) : eqR to (partR B len b o sh c fr to pos v) (partR B len b o sh d fr to pos w) := by
  have hT : ∀ k xx p, eqR to (xT B len b o sh c fr to v k xx p) (xT B len b o sh d fr to w k xx p) := by
    intro k xx p
    refine eqR_flt (fun _ => ?_)
    have := elemR_cg (B := B) (len := len) (b := b) (k := k) (xx := xx) (sh := sh) ho.1 hc (to - fr).toNat fr p v w ho.2 h
    exact eqR_less this (by omega)
  refine eqR_get (fun k _ _ p => ?_)
  show eqR to (if k = 15 then _ else _) (if k = 15 then _ else _)
  by_cases z : k = 15
  · rw [if_pos z, if_pos z]
    exact eqR_get (fun xx _ _ p2 => hT k xx p2)
  · rw [if_neg z, if_neg z]
    exact hT k 0 p
theorem partsR_cg {B c d : Int → Int} {len b o sh each n cnt : Int} (ho : 0 ≤ o ∧ o ≤ each) (hn : n = cnt * each) (hc : eqOn c d 0 o) : ∀ (m : Nat) (j pos : Int) (v w : Int → Int), 0 ≤ j → j + m = cnt → eqOn v w 0 (if j = 0 then o else j * each) → eqR (if j + m = 0 then o else (j + m) * each) (partsR B len b o sh c each m j pos v) (partsR B len b o sh d each m j pos w)
  | 0, j, pos, v, w, hj, hm, h => by
    refine ⟨rfl, fun _ => ⟨rfl, ?_⟩⟩
    rw [show j + ((0 : Nat) : Int) = j by omega]
    exact h
  | m + 1, j, pos, v, w, hj, hm, h => by
    have hr := prange ho hn (j := j) ⟨hj, by omega⟩
    have he := pend o each j
    refine eqR_then (m := (j + 1) * each) (partR_cg ⟨ho.1, hr.1⟩ (by omega) hc h) (fun p v2 w2 h2 => ?_)
    have := partsR_cg (B := B) (len := len) (b := b) (sh := sh) ho hn hc m (j + 1) p v2 w2 (by omega) (by omega) (by rw [if_neg (by omega)]; exact h2)
    rw [show j + ((m + 1 : Nat) : Int) = j + 1 + m by omega]
    exact this
theorem mayP_n {p n o : Int} (hp : 0 ≤ p) (h : mayP p n o) : n = 2 ^ p.toNat * (n / 2 ^ p.toNat) := by
  have := Int.mul_ediv_add_emod n (2 ^ p.toNat)
  rw [h.2.1, Int.add_zero] at this
  exact this.symm
theorem restR_cg {B c d : Int → Int} {len n b o sh pos : Int} {v w : Int → Int} (ho : 0 ≤ o) (hc : eqOn c d 0 o) : eqR n (restR B len n b o sh c pos v) (restR B len n b o sh d pos w) := by
  refine eqR_then (m := o) (eqR_less (valsR_cg o.toNat 0 pos v w (fun j h1 h2 => by omega)) (by omega)) (fun p v2 w2 h2 => ?_)
  refine eqR_get (fun q hq _ p2 => eqR_flt (fun hm => ?_))
  have hm : mayP q n o := Decidable.of_not_not hm
  have hn := mayP_n hq hm
  have hz := pw_pos q
  have := partsR_cg (B := B) (len := len) (b := b) (sh := sh) (cnt := 2 ^ q.toNat) ⟨ho, hm.2.2⟩ hn hc (2 ^ q.toNat) 0 p2 v2 w2 (by omega) (by rw [Int.zero_add, Int.natCast_pow]; rfl) (by rw [if_pos rfl]; exact h2)
  rw [Int.zero_add, Int.natCast_pow, if_neg (by show ¬ (2 : Int) ^ q.toNat = 0; omega)] at this
  refine eqR_less this ?_
  show n ≤ (2 : Int) ^ q.toNat * _
  omega
theorem foreR_cg {B c d : Int → Int} {len n b kind pos : Int} {v w : Int → Int} (hk : 2 ≤ kind) : eqR n (foreR B len n b kind c pos v) (foreR B len n b kind d pos w) := by
  unfold foreR
  by_cases z : kind = 7
  · rw [if_pos z, if_pos z]
    refine eqR_get (fun q hq _ p => eqR_flt (fun hm => eqR_get (fun sh _ _ p2 => ?_)))
    refine eqR_then (m := 1 + q) (eqR_less (valsR_cg (1 + q).toNat 0 p2 c d (fun j h1 h2 => by omega)) (by omega)) (fun p3 v2 w2 h2 => ?_)
    exact restR_cg (by omega) h2
  · rw [if_neg z, if_neg z]
    exact eqR_flt (fun _ => restR_cg (by omega) (fun _ _ _ => rfl))
theorem bodyR_cg {B c d : Int → Int} {len n b kind pos : Int} {v w : Int → Int} (hk : 0 ≤ kind) : eqR n (bodyR B len n b kind c pos v) (bodyR B len n b kind d pos w) := by
  unfold bodyR
  by_cases z : kind = 0
  · rw [if_pos z, if_pos z]; exact eqR_same _ _
  · rw [if_neg z, if_neg z]
    by_cases y : kind = 1
    · rw [if_pos y, if_pos y]
      exact eqR_less (valsR_cg n.toNat 0 pos v w (fun j h1 h2 => by omega)) (by omega)
    · rw [if_neg y, if_neg y]; exact foreR_cg (by omega)
def z0 : Int → Int := fun _ => 0
def isRn (n : Int) (R : RR) (fa pos : Int) (v : Int → Int) : Prop := fa = R.1 ∧ (fa = 0 → pos = R.2.1 ∧ eqOn v R.2.2 0 n)
theorem isRn_of {n fa pos : Int} {R S : RR} {v : Int → Int} (h : isR R fa pos v) (hR : eqR n R S) : isRn n S fa pos v := by
  obtain ⟨h1, h2⟩ := h
  refine ⟨by rw [h1]; exact hR.1, fun k => ?_⟩
  obtain ⟨e1, e2⟩ := h2 k
  have := hR.2 (by omega)
  rw [e1, e2]
  exact this
/-- the last step of a row: what was wasted -/
def shlR (w : Int) (r : RR) : RR := thenR r (fun p3 u => (0, p3, fun j => u j * 2 ^ w.toNat))
theorem isRn_shl {n fa pos w : Int} {S R : RR} {v v2 : Int → Int} (h : isRn n S fa pos v) (h2 : ∀ j, 0 ≤ j → j < n → v2 j = v j * 2 ^ w.toNat) (hR : R = shlR w S) : isRn n R fa pos v2 := by
  rw [hR]
  unfold isRn shlR thenR
  by_cases k : S.1 = 0
  · rw [if_pos k]
    refine ⟨by rw [h.1, k], fun q => ⟨(h.2 q).1, fun j h3 h4 => ?_⟩⟩
    rw [h2 j h3 h4, (h.2 q).2 j h3 h4]
  · rw [if_neg k]
    refine ⟨h.1, fun q => ?_⟩
    have := h.1
    omega
theorem isRn_bad {n fa pos : Int} {R rest : RR} {v : Int → Int} (h : contI R fa rest) (d : ¬ fa = 0) : isRn n R fa pos v := ⟨(h.2 d).symm, fun k => absurd k d⟩
theorem isRn_cont {n fa fa2 pos : Int} {R rest : RR} {v : Int → Int} (h : contI R fa rest) (h0 : fa = 0) (h2 : isRn n rest fa2 pos v) : isRn n R fa2 pos v := by rw [h.1 h0]; exact h2
/-! bounds -/
def fitOn (v : Int → Int) (b i : Int) : Prop := ∀ j, 0 ≤ j → j < i → fit (v j) b
theorem fit_in {v b : Int} (hb : 1 ≤ b ∧ b ≤ 17) (h : fit v b) : -65536 ≤ v ∧ v < 65536 := by
  have h1 := pw_le (k := b - 1) 16 (by omega)
  have e : (2 : Int) ^ 16 = 65536 := by decide
  rw [e] at h1
  obtain ⟨h2, h3⟩ := h
  omega
theorem fitOn_v {v : Int → Int} {b i : Int} (hb : 1 ≤ b ∧ b ≤ 17) (h : fitOn v b i) : vOk v i := fun j h1 h2 => by have := fit_in hb (h j h1 h2); omega
theorem fit_0 (b : Int) : fit 0 b := by have := pw_pos (b - 1); constructor <;> omega
theorem fitOn_up {v : Int → Int} {b i z : Int} (h : fitOn v b i) (hz : fit z b) : fitOn (zup v i z) b (i + 1) := by
  intro j h1 h2
  by_cases e : j = i
  · rw [e, zup_s]; exact hz
  · rw [zup_n e]; exact h j h1 (by omega)
theorem fit_shl {v b w : Int} (hb : 1 ≤ b) (hw : 0 ≤ w) (h : fit v b) : fit (v * 2 ^ w.toNat) (b + w) := by
  have hp := pw_pos w
  have e : (2 : Int) ^ (b + w - 1).toNat = 2 ^ (b - 1).toNat * 2 ^ w.toNat := by rw [show (b + w - 1).toNat = (b - 1).toNat + w.toNat by omega, Int.pow_add]
  have h1 := Int.mul_le_mul_of_nonneg_right h.1 (Int.le_of_lt hp)
  have h2 := Int.mul_lt_mul_of_pos_right h.2 hp
  constructor
  · rw [e, ← Int.neg_mul]; exact h1
  · rw [e]; exact h2
theorem rd_sgn {B : Int → Int} {len fa pos b r fa2 pos2 q : Int} (hb : 1 ≤ b) (h : rdRel B len fa pos b r fa2 pos2 (sgn q b)) : fit r b := by
  by_cases c : fa = 0 ∧ pos + b ≤ 8 * len
  · rw [(h.1 c).2.2]; exact sgn_fit hb
  · rw [(h.2 c).2.2]; exact fit_0 b
theorem rd_sgn24 {B : Int → Int} {len fa pos b r fa2 pos2 : Int} (hb : 0 ≤ b ∧ b ≤ 24) (h : rdRel B len fa pos b r fa2 pos2 (sgn (num B pos b.toNat) b)) : -16777216 ≤ r ∧ r ≤ 16777216 := by
  by_cases z : b = 0
  · have e : sgn (num B pos b.toNat) b = 0 := by rw [z]; rfl
    rw [e] at h
    by_cases c : fa = 0 ∧ pos + b ≤ 8 * len
    · rw [(h.1 c).2.2]; decide
    · rw [(h.2 c).2.2]; decide
  · have h1 := rd_sgn (by omega) h
    have h2 := pw_le (k := b - 1) 23 (by omega)
    have e : (2 : Int) ^ 23 = 8388608 := by decide
    rw [e] at h2
    have h3 := h1.1
    have h4 := h1.2
    omega
theorem frun_fa {B : Int → Int} {len : Int} : ∀ (n : Nat) (p : Int), (frun B len n p).1 = 0 ∨ (frun B len n p).1 = 1 ∨ (frun B len n p).1 = 8
  | 0, p => Or.inr (Or.inr rfl)
  | n + 1, p => by
    show (if p + 1 ≤ 8 * len then (if bitAt B p = 0 then (0, p + 1) else frun B len n (p + 1)) else (1, p)).1 = 0 ∨ (if p + 1 ≤ 8 * len then (if bitAt B p = 0 then (0, p + 1) else frun B len n (p + 1)) else (1, p)).1 = 1 ∨ (if p + 1 ≤ 8 * len then (if bitAt B p = 0 then (0, p + 1) else frun B len n (p + 1)) else (1, p)).1 = 8
    by_cases c : p + 1 ≤ 8 * len
    · rw [if_pos c]
      by_cases d : bitAt B p = 0
      · rw [if_pos d]; exact Or.inl rfl
      · rw [if_neg d]; exact frun_fa n (p + 1)
    · rw [if_neg c]; exact Or.inr (Or.inl rfl)
theorem rfold_fa (B : Int → Int) (len k pos : Int) : (rfold B len k pos).1 = 0 ∨ (rfold B len k pos).1 = 1 ∨ (rfold B len k pos).1 = 8 := by
  unfold rfold
  by_cases c : (frun B len (2 ^ (24 - k).toNat) pos).1 ≠ 0
  · rw [if_pos c]; exact frun_fa _ _
  · rw [if_neg c]
    split
    · exact Or.inl rfl
    · exact Or.inr (Or.inl rfl)
theorem flt_0 {wr fa fa2 e : Int} (h : fa2 = fltIf wr fa e) (he : ¬ e = 0) (h0 : fa2 = 0) : wr = 0 ∧ fa = 0 := by
  unfold fltIf at h
  split at h <;> omega
theorem flt_in {wr fa fa2 e : Int} (h : fa2 = fltIf wr fa e) (h1 : 0 ≤ fa ∧ fa ≤ 20) (he : 0 ≤ e ∧ e ≤ 20) : 0 ≤ fa2 ∧ fa2 ≤ 20 := by
  unfold fltIf at h
  split at h <;> omega
/-! the frame -/
abbrev FB := Int × Int × Int × Int × Int × Int × Int × (Int → Int) × (Int → Int)
def hdR (B : Int → Int) (len pos : Int) (f : Int → Int → Int → Int → Int → Int × FB) : Int × FB :=
  getR B len 9 pos (fun a p => fltR (400 < 1 + a) 2 (getR B len 1 p (fun c p2 => getR B len 2 p2 (fun t p3 => fltR (1 + c = 1 ∧ ¬ t = 0) 3 (getR B len 4 p3 (fun s p4 => f (1 + a) (1 + c) t (1 + s) p4))))))
def endR (B : Int → Int) (len pl n ch tn sb kd0 kd1 pos : Int) (v0 v1 : Int → Int) : Int × FB :=
  getR B len (-pos % 8) pos (fun pad p => fltR (¬ pad = 0) 9 (getR B len 8 p (fun s p2 => fltR (¬ s = crc B pl (p / 8 - pl).toNat) 10 (fltR (¬ (tn = 0 ∨ uok tn sb v0 v1 n.toNat = true)) 11 (0, n, ch, tn, sb, kd0, kd1, p2 / 8, (fun j => utA tn (v0 j) (v1 j)), (fun j => utB tn (v0 j) (v1 j)))))))
def rbF (tn sb : Int) : Int := if zFirst tn.toNat = 2 then sb + 1 else sb
def rbS (tn sb : Int) : Int := if zSecond tn.toNat = 2 then sb + 1 else sb
def frR (B : Int → Int) (len pl : Int) : Int × FB :=
  hdR B len (8 * pl) (fun n ch tn sb p => thenR (rowR B len n (rbF tn sb) z0 p z0) (fun p1 v0 => if ch = 2 then thenR (rowR B len n (rbS tn sb) z0 p1 z0) (fun p2 v1 => endR B len pl n ch tn sb (num B p 3) (num B p1 3) p2 v0 v1) else endR B len pl n ch tn sb (num B p 3) (-1) p1 v0 z0))
theorem uok_cg {tn sb : Int} {f g u w : Int → Int} : ∀ n : Nat, eqOn f u 0 n → eqOn g w 0 n → uok tn sb f g n = uok tn sb u w n
  | 0, _, _ => rfl
  | n + 1, h1, h2 => by
    show (uok tn sb f g n && (decide (fit (utA tn (f n) (g n)) sb) && decide (fit (utB tn (f n) (g n)) sb))) = (uok tn sb u w n && (decide (fit (utA tn (u n) (w n)) sb) && decide (fit (utB tn (u n) (w n)) sb)))
    rw [uok_cg n (fun j a b => h1 j a (by omega)) (fun j a b => h2 j a (by omega)), h1 n (by omega) (by omega), h2 n (by omega) (by omega)]
