/-! ===== rows and frames read: the last steps ===== -/
theorem isRn_like {B : Int → Int} {len fa pos b r fa2 pos2 n : Int} {v : Int → Int} (h : rdRel B len fa pos b r fa2 pos2 (sgn (num B pos b.toNat) b)) (h0 : fa = 0) (hv : ∀ j, 0 ≤ j → j < n → v j = r) : isRn n (likeR B len b pos) fa2 pos2 v := by
  unfold isRn likeR getR
  by_cases c : pos + b ≤ 8 * len
  · obtain ⟨a1, a2, a3⟩ := h.1 ⟨h0, c⟩
    rw [if_pos c]
    exact ⟨a1, fun _ => ⟨a2, fun j h1 h2 => by rw [hv j h1 h2, a3]⟩⟩
  · obtain ⟨a1, a2, a3⟩ := h.2 (fun q => c q.2)
    rw [if_pos h0] at a1
    rw [if_neg c]
    exact ⟨a1, fun q => by omega⟩
theorem sR_0 {β : Type} [Inhabited β] {fa : Int} {r : Int × β} (h : fa = 0) : sR fa r = r := if_pos h
theorem fitOn_shl {v v2 : Int → Int} {b w rb n : Int} (hb : 1 ≤ b) (hw : 0 ≤ w) (hr : rb = b + w) (h : fitOn v b n) (h2 : ∀ j, 0 ≤ j → j < n → v2 j = v j * 2 ^ w.toNat) : fitOn v2 rb n := by
  intro j h3 h4
  rw [h2 j h3 h4, hr]
  exact fit_shl hb hw (h j h3 h4)
/-! places never go back -/
def geR (pos : Int) (r : RR) : Prop := r.1 = 0 → pos ≤ r.2.1
theorem geR_get {B : Int → Int} {len bits pos : Int} {f : Int → Int → RR} (hb : 0 ≤ bits) (h : ∀ q p, pos ≤ p → geR pos (f q p)) : geR pos (getR B len bits pos f) := by
  unfold getR
  by_cases c : pos + bits ≤ 8 * len
  · rw [if_pos c]; exact h _ _ (by omega)
  · rw [if_neg c]; intro q; exact absurd q (show ¬ (1 : Int) = 0 by decide)
theorem geR_le {p q : Int} {r : RR} (h : geR p r) (hq : q ≤ p) : geR q r := fun z => by have := h z; omega
theorem geR_flt {pos : Int} {c : Prop} [Decidable c] {e : Int} (he : ¬ e = 0) {f : RR} (h : geR pos f) : geR pos (fltR c e f) := by
  unfold fltR
  by_cases k : c
  · rw [if_pos k]; intro q; exact absurd q he
  · rw [if_neg k]; exact h
theorem geR_then {pos : Int} {r : RR} {f : Int → (Int → Int) → RR} (hr : geR pos r) (h : ∀ p v, pos ≤ p → geR pos (f p v)) : geR pos (thenR r f) := by
  unfold thenR
  by_cases k : r.1 = 0
  · rw [if_pos k]; exact h _ _ (hr k)
  · rw [if_neg k]; intro q; exact absurd q k
theorem frun_ge {B : Int → Int} {len : Int} : ∀ (n : Nat) (p : Int), p ≤ (frun B len n p).2
  | 0, p => Int.le_refl _
  | n + 1, p => by
    show p ≤ (if p + 1 ≤ 8 * len then (if bitAt B p = 0 then (0, p + 1) else frun B len n (p + 1)) else (1, p)).2
    by_cases c : p + 1 ≤ 8 * len
    · rw [if_pos c]
      by_cases d : bitAt B p = 0
      · rw [if_pos d]; show p ≤ p + 1; omega
      · rw [if_neg d]; have := frun_ge (B := B) (len := len) n (p + 1); omega
    · rw [if_neg c]; exact Int.le_refl _
theorem rest_ge {B : Int → Int} {len k xx pos : Int} (hk : 0 ≤ k) (hx : 0 ≤ xx) (h : (restAt B len k xx pos).1 = 0) : pos ≤ (restAt B len k xx pos).2.2 := by
  unfold restAt at h ⊢
  by_cases c : k = 15
  · rw [if_pos c] at h ⊢
    by_cases d : pos + xx ≤ 8 * len
    · rw [if_pos d]; show pos ≤ pos + xx; omega
    · rw [if_neg d] at h; exact absurd h (show ¬ (1 : Int) = 0 by decide)
  · rw [if_neg c] at h ⊢
    have hz := frun_ge (B := B) (len := len) (2 ^ (24 - k).toNat) pos
    unfold rfold at h ⊢
    by_cases d : (frun B len (2 ^ (24 - k).toNat) pos).1 ≠ 0
    · rw [if_pos d] at h; exact absurd h d
    · rw [if_neg d] at h ⊢
      by_cases e : (frun B len (2 ^ (24 - k).toNat) pos).2 + k ≤ 8 * len
      · rw [if_pos e]; show pos ≤ (frun B len (2 ^ (24 - k).toNat) pos).2 + k; omega
      · rw [if_neg e] at h; exact absurd h (show ¬ (1 : Int) = 0 by decide)
theorem elemR_ge {B c : Int → Int} {len b k xx o sh : Int} (hk : 0 ≤ k) (hx : 0 ≤ xx) : ∀ (m : Nat) (i pos : Int) (v : Int → Int), geR pos (elemR B len b k xx o sh c m i pos v)
  | 0, i, pos, v => fun _ => Int.le_refl _
  | m + 1, i, pos, v => by
    show geR pos (if (restAt B len k xx pos).1 = 0 then _ else _)
    by_cases z : (restAt B len k xx pos).1 = 0
    · rw [if_pos z]
      exact geR_flt (by decide) (geR_le (elemR_ge hk hx m (i + 1) _ _) (rest_ge hk hx z))
    · rw [if_neg z]; intro q; exact absurd q z
theorem partR_ge {B c : Int → Int} {len b o sh fr to pos : Int} {v : Int → Int} : geR pos (partR B len b o sh c fr to pos v) := by
  unfold partR getR
  have hn := num_in B pos (4 : Int).toNat
  by_cases c : pos + 4 ≤ 8 * len
  · rw [if_pos c]
    unfold xR
    by_cases z : num B pos (4 : Int).toNat = 15
    · rw [if_pos z]
      unfold getR
      have hm := num_in B (pos + 4) (5 : Int).toNat
      by_cases d : pos + 4 + 5 ≤ 8 * len
      · rw [if_pos d]
        exact geR_flt (by decide) (geR_le (elemR_ge hn.1 hm.1 _ _ _ _) (by omega))
      · rw [if_neg d]; intro q; exact absurd q (show ¬ (1 : Int) = 0 by decide)
    · rw [if_neg z]
      exact geR_flt (by decide) (geR_le (elemR_ge hn.1 (by decide) _ _ _ _) (by omega))
  · rw [if_neg c]; intro q; exact absurd q (show ¬ (1 : Int) = 0 by decide)
theorem partsR_ge {B c : Int → Int} {len b o sh each : Int} : ∀ (m : Nat) (j pos : Int) (v : Int → Int), geR pos (partsR B len b o sh c each m j pos v)
  | 0, j, pos, v => fun _ => Int.le_refl _
  | m + 1, j, pos, v => geR_then partR_ge (fun p w hp => geR_le (partsR_ge m (j + 1) p w) hp)
theorem valsR_ge {B : Int → Int} {len b : Int} (hb : 0 ≤ b) : ∀ (m : Nat) (i pos : Int) (v : Int → Int), geR pos (valsR B len b m i pos v)
  | 0, i, pos, v => fun _ => Int.le_refl _
  | m + 1, i, pos, v => geR_get hb (fun q p hp => geR_le (valsR_ge hb m (i + 1) p _) hp)
theorem restR_ge {B c : Int → Int} {len n b o sh pos : Int} {v : Int → Int} (hb : 0 ≤ b) : geR pos (restR B len n b o sh c pos v) :=
  geR_then (valsR_ge hb _ _ _ _) (fun p w hp => geR_le (geR_get (by decide) (fun q p2 hp2 => geR_flt (by decide) (geR_le (partsR_ge _ _ _ _) hp2))) hp)
theorem foreR_ge {B c : Int → Int} {len n b kind pos : Int} {v : Int → Int} (hb : 0 ≤ b) : geR pos (foreR B len n b kind c pos v) := by
  unfold foreR
  by_cases z : kind = 7
  · rw [if_pos z]
    refine geR_get (by decide) (fun q p hp => geR_flt (by decide) (geR_le (geR_get (by decide) (fun sh p2 hp2 => ?_)) hp))
    exact geR_le (geR_then (valsR_ge (by decide) _ _ _ _) (fun p3 c2 hp3 => geR_le (restR_ge hb) hp3)) hp2
  · rw [if_neg z]; exact geR_flt (by decide) (restR_ge hb)
theorem bodyR_ge {B c : Int → Int} {len n b kind pos : Int} {v : Int → Int} (hb : 0 ≤ b) : geR pos (bodyR B len n b kind c pos v) := by
  unfold bodyR
  by_cases z : kind = 0
  · rw [if_pos z]; exact geR_get hb (fun q p hp => fun _ => hp)
  · rw [if_neg z]
    by_cases y : kind = 1
    · rw [if_pos y]; exact valsR_ge hb _ _ _ _
    · rw [if_neg y]; exact foreR_ge hb
theorem rowR_ge {B c : Int → Int} {len n rb pos : Int} {v : Int → Int} : geR pos (rowR B len n rb c pos v) := by
  refine geR_get (by decide) (fun kind p hp => geR_le (geR_get (by decide) (fun w p2 hp2 => ?_)) hp)
  unfold fltR
  by_cases k : rb ≤ w
  · rw [if_pos k]; intro q; exact absurd q (show ¬ (4 : Int) = 0 by decide)
  · rw [if_neg k]
    exact geR_le (geR_then (bodyR_ge (by omega)) (fun p3 u hp3 => fun _ => hp3)) hp2
/-! the frame's steps -/
def hdD (B : Int → Int) (len : Int) (f : Int → Int → Int → Int → Int → Int × FB) (a c t p : Int) : Int × FB := getR B len 4 p (fun s p4 => f (1 + a) (1 + c) t (1 + s) p4)
def hdC (B : Int → Int) (len : Int) (f : Int → Int → Int → Int → Int → Int × FB) (a c p : Int) : Int × FB := getR B len 2 p (fun t p3 => fltR (1 + c = 1 ∧ ¬ t = 0) 3 (hdD B len f a c t p3))
def hdA (B : Int → Int) (len : Int) (f : Int → Int → Int → Int → Int → Int × FB) (a p : Int) : Int × FB := getR B len 1 p (fun c p2 => hdC B len f a c p2)
theorem hdR_e (B : Int → Int) (len pos : Int) (f : Int → Int → Int → Int → Int → Int × FB) : hdR B len pos f = getR B len 9 pos (fun a p => fltR (400 < 1 + a) 2 (hdA B len f a p)) := rfl
def isF (F : Int × FB) (fa n ch tn sb kd0 kd1 bh : Int) (e0 e1 : Int → Int) : Prop := fa = F.1 ∧ (fa = 0 → F.2.1 = n ∧ F.2.2.1 = ch ∧ F.2.2.2.1 = tn ∧ F.2.2.2.2.1 = sb ∧ F.2.2.2.2.2.1 = kd0 ∧ F.2.2.2.2.2.2.1 = kd1 ∧ F.2.2.2.2.2.2.2.1 = bh ∧ eqOn e0 F.2.2.2.2.2.2.2.2.1 0 n ∧ (ch = 2 → eqOn e1 F.2.2.2.2.2.2.2.2.2 0 n))
theorem isF_bad {F rest : Int × FB} {fa n ch tn sb kd0 kd1 bh : Int} {e0 e1 : Int → Int} (h : contI F fa rest) (d : ¬ fa = 0) : isF F fa n ch tn sb kd0 kd1 bh e0 e1 := ⟨(h.2 d).symm, fun k => absurd k d⟩
theorem isF_end {F : Int × FB} {fa n ch tn sb kd0 kd1 bh : Int} {u0 u1 e0 e1 : Int → Int} (h : contI F fa (0, n, ch, tn, sb, kd0, kd1, bh, u0, u1)) (h1 : fa = 0 → eqOn e0 u0 0 n ∧ (ch = 2 → eqOn e1 u1 0 n)) : isF F fa n ch tn sb kd0 kd1 bh e0 e1 := by
  by_cases d : fa = 0
  · rw [h.1 d]
    exact ⟨d, fun _ => ⟨rfl, rfl, rfl, rfl, rfl, rfl, rfl, (h1 d).1, (h1 d).2⟩⟩
  · exact isF_bad h d
theorem uok_all {tn sb : Int} {f g : Int → Int} : ∀ n : Nat, uok tn sb f g n = true → ∀ j : Int, 0 ≤ j → j < n → fit (utA tn (f j) (g j)) sb ∧ fit (utB tn (f j) (g j)) sb
  | 0, _, j, h1, h2 => by omega
  | n + 1, h, j, h1, h2 => by
    have h : (uok tn sb f g n && (decide (fit (utA tn (f (n : Int)) (g (n : Int))) sb) && decide (fit (utB tn (f (n : Int)) (g (n : Int))) sb))) = true := h
    rw [Bool.and_eq_true, Bool.and_eq_true] at h
    by_cases c : j = n
    · rw [c]; exact ⟨of_decide_eq_true h.2.1, of_decide_eq_true h.2.2⟩
    · exact uok_all n h.1 j h1 (by omega)
theorem cI_row {R : Int × FB} {r : RR} {fa fa2 pos2 n : Int} {v2 : Int → Int} {f : Int → (Int → Int) → Int × FB} (h : contI R fa (thenR r f)) (h0 : fa = 0) (hr : isRn n r fa2 pos2 v2) : contI R fa2 (f pos2 r.2.2) := by
  obtain ⟨h1, h2⟩ := hr
  unfold thenR at h
  by_cases k : r.1 = 0
  · rw [if_pos k] at h
    have e1 := (h2 (by omega)).1
    rw [e1]
    exact cI_0 (by omega) (h.1 h0)
  · rw [if_neg k] at h
    refine ⟨fun q => by omega, fun _ => ?_⟩
    rw [h.1 h0, h1]
theorem rb_in (tn sb : Int) (h : 1 ≤ sb ∧ sb ≤ 16) : (1 ≤ rbF tn sb ∧ rbF tn sb ≤ 17) ∧ (1 ≤ rbS tn sb ∧ rbS tn sb ≤ 17) := by
  unfold rbF rbS
  constructor <;> split <;> omega
