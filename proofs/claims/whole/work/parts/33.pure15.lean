/-! ===== what reading answers: (fault, (place, values)) ===== -/
def rf2 (a b : Nat) : Nat → Option Nat := fun j => if j = 0 then some a else some b
def pk4 (a b c d : Prop) (j : Int) : Prop := if j = 0 then a else if j = 1 then b else if j = 2 then c else d
abbrev RR := Int × Int × (Int → Int)
def getR {β : Type} [Inhabited β] (B : Int → Int) (len bits pos : Int) (f : Int → Int → Int × β) : Int × β := if pos + bits ≤ 8 * len then f (num B pos bits.toNat) (pos + bits) else (1, default)
def thenR {β : Type} [Inhabited β] (r : RR) (f : Int → (Int → Int) → Int × β) : Int × β := if r.1 = 0 then f r.2.1 r.2.2 else (r.1, default)
def fltR {β : Type} [Inhabited β] (c : Prop) [Decidable c] (e : Int) (f : Int × β) : Int × β := if c then (e, default) else f
/-- behind an old fault nothing happens -/
def sR {β : Type} [Inhabited β] (fa : Int) (r : Int × β) : Int × β := if fa = 0 then r else (fa, default)
/-- all of R is: what is left, if there is no fault yet -/
def contI {β : Type} (R : Int × β) (fa : Int) (rest : Int × β) : Prop := (fa = 0 → R = rest) ∧ (¬ fa = 0 → R.1 = fa)
def isR (R : RR) (fa pos : Int) (v : Int → Int) : Prop := fa = R.1 ∧ (fa = 0 → pos = R.2.1 ∧ v = R.2.2)
def restAt (B : Int → Int) (len k xx pos : Int) : Int × Int × Int := if k = 15 then (if pos + xx ≤ 8 * len then (0, sgn (num B pos xx.toNat) xx, pos + xx) else (1, 0, pos)) else rfold B len k pos
def elemR (B : Int → Int) (len b k xx o sh : Int) (c : Int → Int) : Nat → Int → Int → (Int → Int) → RR
  | 0, _, pos, v => (0, pos, v)
  | m + 1, i, pos, v => if (restAt B len k xx pos).1 = 0 then fltR (¬ fit (ft c v o sh i + (restAt B len k xx pos).2.1) b) 8 (elemR B len b k xx o sh c m (i + 1) (restAt B len k xx pos).2.2 (zup v i (ft c v o sh i + (restAt B len k xx pos).2.1))) else ((restAt B len k xx pos).1, default)
def xT (B : Int → Int) (len b o sh : Int) (c : Int → Int) (fr to : Int) (v : Int → Int) (k xx p : Int) : RR := fltR (24 < xx) 7 (elemR B len b k xx o sh c (to - fr).toNat fr p v)
def xR (B : Int → Int) (len b o sh : Int) (c : Int → Int) (fr to : Int) (v : Int → Int) (k p : Int) : RR := if k = 15 then getR B len 5 p (fun xx p2 => xT B len b o sh c fr to v k xx p2) else xT B len b o sh c fr to v k 0 p
def partR (B : Int → Int) (len b o sh : Int) (c : Int → Int) (fr to pos : Int) (v : Int → Int) : RR := getR B len 4 pos (xR B len b o sh c fr to v)
def partsR (B : Int → Int) (len b o sh : Int) (c : Int → Int) (each : Int) : Nat → Int → Int → (Int → Int) → RR
  | 0, _, pos, v => (0, pos, v)
  | m + 1, j, pos, v => thenR (partR B len b o sh c (pst o each j) ((j + 1) * each) pos v) (fun p w => partsR B len b o sh c each m (j + 1) p w)
def valsR (B : Int → Int) (len b : Int) : Nat → Int → Int → (Int → Int) → RR
  | 0, _, pos, v => (0, pos, v)
  | m + 1, i, pos, v => getR B len b pos (fun q p => valsR B len b m (i + 1) p (zup v i (sgn q b)))
abbrev mayP (p n o : Int) : Prop := p ≤ 4 ∧ n % 2 ^ p.toNat = 0 ∧ o ≤ n / 2 ^ p.toNat
def restR (B : Int → Int) (len n b o sh : Int) (c : Int → Int) (pos : Int) (v : Int → Int) : RR :=
  thenR (valsR B len b o.toNat 0 pos v) (fun p w => getR B len 3 p (fun q p2 => fltR (¬ mayP q n o) 6 (partsR B len b o sh c (n / 2 ^ q.toNat) (2 ^ q.toNat) 0 p2 w)))
def foreR (B : Int → Int) (len n b kind : Int) (c : Int → Int) (pos : Int) (v : Int → Int) : RR :=
  if kind = 7 then getR B len 2 pos (fun q p => fltR (n < 1 + q) 5 (getR B len 4 p (fun sh p2 => thenR (valsR B len 10 (1 + q).toNat 0 p2 c) (fun p3 c2 => restR B len n b (1 + q) sh c2 p3 v))))
  else fltR (n < kind - 2) 5 (restR B len n b (kind - 2) 0 (cFix (kind - 2)) pos v)
def likeR (B : Int → Int) (len b pos : Int) : RR := getR B len b pos (fun q p => (0, p, fun _ => sgn q b))
def bodyR (B : Int → Int) (len n b kind : Int) (c : Int → Int) (pos : Int) (v : Int → Int) : RR := if kind = 0 then likeR B len b pos else if kind = 1 then valsR B len b n.toNat 0 pos v else foreR B len n b kind c pos v
def rowR (B : Int → Int) (len n rb : Int) (c : Int → Int) (pos : Int) (v : Int → Int) : RR :=
  getR B len 3 pos (fun kind p => getR B len 4 p (fun w p2 => fltR (rb ≤ w) 4 (thenR (bodyR B len n (rb - w) kind c p2 v) (fun p3 u => (0, p3, fun j => u j * 2 ^ w.toNat)))))
/-! steps -/
theorem cI_0 {β : Type} {fa : Int} {R rest : Int × β} (h : fa = 0) (hR : R = rest) : contI R fa rest := ⟨fun _ => hR, fun k => absurd h k⟩
theorem cI_s {β : Type} [Inhabited β] (fa : Int) (r : Int × β) : contI (sR fa r) fa r := by
  unfold sR contI
  by_cases c : fa = 0
  · rw [if_pos c]; exact ⟨fun _ => rfl, fun k => absurd c k⟩
  · rw [if_neg c]; exact ⟨fun k => absurd k c, fun _ => rfl⟩
theorem cI_get {β : Type} [Inhabited β] {R : Int × β} {B : Int → Int} {len fa pos bits r fa2 pos2 : Int} {f : Int → Int → Int × β} (h : contI R fa (getR B len bits pos f)) (hr : rdRel B len fa pos bits r fa2 pos2 (num B pos bits.toNat)) : contI R fa2 (f r pos2) := by
  by_cases c : fa = 0 ∧ pos + bits ≤ 8 * len
  · obtain ⟨a1, a2, a3⟩ := hr.1 c
    refine cI_0 a1 ?_
    rw [h.1 c.1, a2, a3]
    unfold getR
    rw [if_pos c.2]
  · obtain ⟨a1, a2, a3⟩ := hr.2 c
    by_cases d : fa = 0
    · rw [if_pos d] at a1
      refine ⟨fun k => by omega, fun _ => ?_⟩
      rw [h.1 d, a1]
      unfold getR
      rw [if_neg (fun k => c ⟨d, k⟩)]
    · rw [if_neg d] at a1
      refine ⟨fun k => by omega, fun _ => ?_⟩
      rw [h.2 d, a1]
theorem cI_flt {β : Type} [Inhabited β] {R f : Int × β} {fa fa2 wr e : Int} {c : Prop} [Decidable c] (h : contI R fa (fltR c e f)) (hr : fa2 = fltIf wr fa e) (he : ¬ e = 0) (hw : (¬ wr = 0 ∧ c) ∨ (wr = 0 ∧ ¬ c)) : contI R fa2 f := by
  unfold fltIf at hr
  unfold fltR at h
  by_cases d : fa = 0
  · rcases hw with ⟨h1, h2⟩ | ⟨h1, h2⟩
    · rw [if_pos ⟨h1, d⟩] at hr
      rw [if_pos h2] at h
      refine ⟨fun k => by omega, fun _ => ?_⟩
      rw [h.1 d, hr]
    · rw [if_neg (fun k => k.1 h1)] at hr
      rw [if_neg h2] at h
      rw [hr]; exact h
  · rw [if_neg (fun k => d k.2)] at hr
    rw [hr]
    exact ⟨fun k => absurd k d, fun _ => h.2 d⟩
theorem cI_end {R : RR} {fa pos : Int} {v : Int → Int} (h : contI R fa (0, pos, v)) : isR R fa pos v := by
  by_cases d : fa = 0
  · have := h.1 d
    rw [this]
    exact ⟨d, fun _ => ⟨rfl, rfl⟩⟩
  · exact ⟨(h.2 d).symm, fun k => absurd k d⟩
theorem cI_bad {R rest : RR} {fa pos : Int} {v : Int → Int} (h : contI R fa rest) (d : ¬ fa = 0) : isR R fa pos v := ⟨(h.2 d).symm, fun k => absurd k d⟩
theorem cI_then {β : Type} [Inhabited β] {R : Int × β} {r : RR} {fa fa2 pos2 : Int} {v2 : Int → Int} {f : Int → (Int → Int) → Int × β} (h : contI R fa (thenR r f)) (hr : isR (sR fa r) fa2 pos2 v2) : contI R fa2 (f pos2 v2) := by
  obtain ⟨h1, h2⟩ := hr
  unfold sR at h1 h2
  unfold thenR at h
  by_cases d : fa = 0
  · rw [if_pos d] at h1 h2
    by_cases k : r.1 = 0
    · rw [if_pos k] at h
      obtain ⟨e1, e2⟩ := h2 (by omega)
      rw [e1, e2]
      exact cI_0 (by omega) (h.1 d)
    · rw [if_neg k] at h
      refine ⟨fun q => by omega, fun _ => ?_⟩
      rw [h.1 d, h1]
  · rw [if_neg d] at h1
    have h1 : fa2 = fa := h1
    rw [h1]
    exact ⟨fun q => absurd q d, fun _ => h.2 d⟩
theorem valsR_step {R : RR} {B : Int → Int} {len b f1 p r f2 p2 i n : Int} {v : Int → Int} (h : contI R f1 (valsR B len b (n - i).toNat i p v)) (hi : i < n) (hr : rdRel B len f1 p b r f2 p2 (sgn (num B p b.toNat) b)) : contI R f2 (valsR B len b (n - (i + 1)).toNat (i + 1) p2 (zup v i r)) := by
  rw [show (n - i).toNat = (n - (i + 1)).toNat + 1 by omega] at h
  by_cases c : f1 = 0 ∧ p + b ≤ 8 * len
  · obtain ⟨a1, a2, a3⟩ := hr.1 c
    refine cI_0 a1 ?_
    rw [h.1 c.1, a2, a3]
    show getR B len b p _ = _
    unfold getR
    rw [if_pos c.2]
  · obtain ⟨a1, a2, a3⟩ := hr.2 c
    by_cases d : f1 = 0
    · rw [if_pos d] at a1
      refine ⟨fun k => by omega, fun _ => ?_⟩
      rw [h.1 d, a1]
      show (getR B len b p _).1 = _
      unfold getR
      rw [if_neg (fun k => c ⟨d, k⟩)]
    · rw [if_neg d] at a1
      refine ⟨fun k => by omega, fun _ => ?_⟩
      rw [h.2 d, a1]
theorem valsR_0 {R : RR} {B : Int → Int} {len b f1 p i n : Int} {v : Int → Int} (h : contI R f1 (valsR B len b (n - i).toNat i p v)) (hi : n ≤ i) : contI R f1 (0, p, v) := by
  rw [show (n - i).toNat = 0 by omega] at h
  exact h
/-- one rest, and its value -/
def isRest (B : Int → Int) (len k xx pos r fa2 pos2 : Int) : Prop := fa2 = (restAt B len k xx pos).1 ∧ (fa2 = 0 → r = (restAt B len k xx pos).2.1 ∧ pos2 = (restAt B len k xx pos).2.2)
theorem rest_15 {B : Int → Int} {len k xx pos r fa fa2 pos2 : Int} (hk : k = 15) (hf : fa = 0) (h : rdRel B len fa pos xx r fa2 pos2 (sgn (num B pos xx.toNat) xx)) : isRest B len k xx pos r fa2 pos2 := by
  unfold isRest restAt
  rw [if_pos hk]
  by_cases c : pos + xx ≤ 8 * len
  · rw [if_pos c]
    obtain ⟨a1, a2, a3⟩ := h.1 ⟨hf, c⟩
    exact ⟨a1, fun _ => ⟨a3, a2⟩⟩
  · rw [if_neg c]
    obtain ⟨a1, a2, a3⟩ := h.2 (fun q => c q.2)
    rw [if_pos hf] at a1
    exact ⟨a1, fun q => by omega⟩
theorem rest_k {B : Int → Int} {len k xx pos r fa2 pos2 : Int} (hk : ¬ k = 15) (h : fa2 = (rfold B len k pos).1 ∧ (fa2 = 0 → r = (rfold B len k pos).2.1 ∧ pos2 = (rfold B len k pos).2.2)) : isRest B len k xx pos r fa2 pos2 := by
  unfold isRest restAt
  rw [if_neg hk]
  exact h
theorem elemR_step {R : RR} {B c : Int → Int} {len b k xx o sh f1 p r f2 f3 p2 i n wr : Int} {v : Int → Int} (h : contI R f1 (elemR B len b k xx o sh c (n - i).toNat i p v)) (h0 : f1 = 0) (hi : i < n) (hr : isRest B len k xx p r f2 p2) (hf : f3 = fltIf wr f2 8) (hw : (¬ wr = 0 ∧ ¬ fit (ft c v o sh i + r) b) ∨ (wr = 0 ∧ fit (ft c v o sh i + r) b)) : contI R f3 (elemR B len b k xx o sh c (n - (i + 1)).toNat (i + 1) p2 (zup v i (ft c v o sh i + r))) := by
  rw [show (n - i).toNat = (n - (i + 1)).toNat + 1 by omega] at h
  have h1 := h.1 h0
  have h2 : R = if (restAt B len k xx p).1 = 0 then fltR (¬ fit (ft c v o sh i + (restAt B len k xx p).2.1) b) 8 (elemR B len b k xx o sh c (n - (i + 1)).toNat (i + 1) (restAt B len k xx p).2.2 (zup v i (ft c v o sh i + (restAt B len k xx p).2.1))) else ((restAt B len k xx p).1, default) := h1
  by_cases d : f2 = 0
  · obtain ⟨e1, e2⟩ := hr.2 d
    have e3 := hr.1
    rw [if_pos (by omega), ← e1, ← e2] at h2
    refine cI_flt (cI_0 d h2) hf (by decide) ?_
    rcases hw with q | q
    · exact Or.inl q
    · exact Or.inr ⟨q.1, fun z => z q.2⟩
  · have e3 := hr.1
    rw [if_neg (by omega)] at h2
    have e4 : f3 = f2 := by
      rw [hf]; unfold fltIf
      rw [if_neg (fun z => d z.2)]
    refine ⟨fun q => by omega, fun _ => ?_⟩
    rw [h2]
    show (restAt B len k xx p).1 = f3
    omega
theorem elemR_0 {R : RR} {B c : Int → Int} {len b k xx o sh f1 p i n : Int} {v : Int → Int} (h : contI R f1 (elemR B len b k xx o sh c (n - i).toNat i p v)) (hi : n ≤ i) : contI R f1 (0, p, v) := by
  rw [show (n - i).toNat = 0 by omega] at h
  exact h
theorem partsR_step {R : RR} {B c : Int → Int} {len b o sh each f1 p f2 p2 j n : Int} {v v2 : Int → Int} (h : contI R f1 (partsR B len b o sh c each (n - j).toNat j p v)) (hj : j < n) (hr : isR (sR f1 (partR B len b o sh c (pst o each j) ((j + 1) * each) p v)) f2 p2 v2) : contI R f2 (partsR B len b o sh c each (n - (j + 1)).toNat (j + 1) p2 v2) := by
  rw [show (n - j).toNat = (n - (j + 1)).toNat + 1 by omega] at h
  exact cI_then (f := fun p w => partsR B len b o sh c each (n - (j + 1)).toNat (j + 1) p w) h hr
theorem partsR_0 {R : RR} {B c : Int → Int} {len b o sh each f1 p j n : Int} {v : Int → Int} (h : contI R f1 (partsR B len b o sh c each (n - j).toNat j p v)) (hj : n ≤ j) : contI R f1 (0, p, v) := by
  rw [show (n - j).toNat = 0 by omega] at h
  exact h
/-! the channels of a TURN's rows -/
def utA (tn a b : Int) : Int := if tn = 0 then a else if tn = 1 then a else if tn = 2 then a + b else (2 * a + b % 2 + b) / 2
def utB (tn a b : Int) : Int := if tn = 0 then b else if tn = 1 then a - b else if tn = 2 then b else (2 * a + b % 2 + b) / 2 - b
def uok (tn sb : Int) (f g : Int → Int) : Nat → Bool
  | 0 => true
  | n + 1 => uok tn sb f g n && (decide (fit (utA tn (f n) (g n)) sb) && decide (fit (utB tn (f n) (g n)) sb))
theorem uok_next {tn sb i : Int} {f g : Int → Int} (h0 : 0 ≤ i) (h : uok tn sb f g i.toNat = true) (h1 : fit (utA tn (f i) (g i)) sb) (h2 : fit (utB tn (f i) (g i)) sb) : uok tn sb f g (i + 1).toNat = true := by
  rw [show (i + 1).toNat = i.toNat + 1 by omega]
  show (uok tn sb f g i.toNat && (decide (fit (utA tn (f (i.toNat : Int)) (g (i.toNat : Int))) sb) && decide (fit (utB tn (f (i.toNat : Int)) (g (i.toNat : Int))) sb))) = true
  rw [show (i.toNat : Int) = i by omega, h, decide_eq_true h1, decide_eq_true h2]
  rfl
theorem uok_no {tn sb i : Int} {f g : Int → Int} (h0 : 0 ≤ i) (h : ¬ (fit (utA tn (f i) (g i)) sb ∧ fit (utB tn (f i) (g i)) sb)) : ∀ n : Nat, i < n → ¬ uok tn sb f g n = true
  | 0, k => by omega
  | n + 1, k => by
    intro z
    have z : (uok tn sb f g n && (decide (fit (utA tn (f (n : Int)) (g (n : Int))) sb) && decide (fit (utB tn (f (n : Int)) (g (n : Int))) sb))) = true := z
    rw [Bool.and_eq_true, Bool.and_eq_true] at z
    by_cases c : i = n
    · rw [← c] at z
      exact h ⟨of_decide_eq_true z.2.1, of_decide_eq_true z.2.2⟩
    · exact uok_no h0 h n (by omega) z.1
