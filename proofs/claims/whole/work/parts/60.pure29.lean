theorem pw_24 {k : Int} (hk : 0 ≤ k ∧ k ≤ 24) : (2 : Int) ^ (24 - k).toNat * 2 ^ k.toNat = 16777216 := by
  rw [← Int.pow_add, show (24 - k).toNat + k.toNat = 24 by omega]
  decide
theorem sh24 {h k : Int} (hk : 0 ≤ k ∧ k ≤ 24) : h * 2 ^ k.toNat < 16777216 ↔ h < 2 ^ (24 - k).toNat := by
  rw [← pw_24 hk]
  exact Int.mul_lt_mul_right (pw_pos k)
theorem sh24_le {h k : Int} (hk : 0 ≤ k ∧ k ≤ 24) (hh : 0 ≤ h ∧ h ≤ 2 ^ (24 - k).toNat) : 0 ≤ h * 2 ^ k.toNat ∧ h * 2 ^ k.toNat ≤ 16777216 := by
  have a := mul_le_r (c := 2 ^ k.toNat) hh.2 (Int.le_of_lt (pw_pos k))
  rw [pw_24 hk] at a
  exact ⟨Int.mul_nonneg hh.1 (Int.le_of_lt (pw_pos k)), a⟩
theorem rdB_one {B : Int → Int} {len fa pos r f2 p2 : Int} (h : rdB B len fa pos r f2 p2) (h1 : r = 1) : (fa = 0 ∧ pos < 8 * len) ∧ f2 = 0 ∧ p2 = pos + 1 ∧ bitAt B pos = 1 := by
  by_cases c : fa = 0 ∧ pos < 8 * len
  · obtain ⟨a1, a2, a3⟩ := h.1 c
    exact ⟨c, a1, a2, by omega⟩
  · have := (h.2 c).2.2; omega
theorem rdB_fa {B : Int → Int} {len fa pos r f2 p2 : Int} (h : rdB B len fa pos r f2 p2) : (f2 = 0 ∨ f2 = 1 ∨ f2 = fa) ∧ pos ≤ p2 ∧ (pos ≤ 8 * len → p2 ≤ 8 * len) := by
  by_cases c : fa = 0 ∧ pos < 8 * len
  · obtain ⟨a1, a2, a3⟩ := h.1 c
    omega
  · obtain ⟨a1, a2, a3⟩ := h.2 c
    by_cases d : fa = 0
    · rw [if_pos d] at a1; omega
    · rw [if_neg d] at a1; omega
def foI (B : Int → Int) (len k cd pl hh cd1 pl1 : Int) : Prop := (¬ cd = 0 → cd1 = cd ∧ hh = 0) ∧ (cd = 0 → (cd1 = 0 ∧ hh < 2 ^ (24 - k).toNat ∧ pl1 = pl + hh ∧ frun B len (2 ^ (24 - k).toNat) pl = frun B len ((2 ^ (24 - k).toNat : Int) - hh).toNat pl1) ∨ (cd1 = 8 ∧ (rfold B len k pl).1 = 8))
theorem foI_0 (B : Int → Int) (len k cd pl : Int) : foI B len k cd pl 0 cd pl := by
  refine ⟨fun _ => ⟨rfl, rfl⟩, fun h => Or.inl ⟨h, pw_pos _, by omega, frun_0 B len k pl⟩⟩
theorem fo_one {B : Int → Int} {len k cd pl hh cd1 pl1 bt f2 p2 : Int} (h : foI B len k cd pl hh cd1 pl1) (hb : rdB B len cd1 pl1 bt f2 p2) (h1 : bt = 1) : cd = 0 ∧ hh < 2 ^ (24 - k).toNat ∧ p2 = pl + (hh + 1) ∧ f2 = 0 ∧ frun B len (2 ^ (24 - k).toNat) pl = frun B len ((2 ^ (24 - k).toNat : Int) - (hh + 1)).toNat p2 := by
  obtain ⟨⟨c1, c2⟩, c3, c4, c5⟩ := rdB_one hb h1
  by_cases d : cd = 0
  · rcases h.2 d with ⟨a1, a2, a3, a4⟩ | ⟨a1, _⟩
    · refine ⟨d, a2, by omega, c3, ?_⟩
      have z := frun_next a4 (by omega) (by omega) (by omega)
      rw [c4, z]
      congr 1
      omega
    · omega
  · have := (h.1 d).1; omega
theorem fo_next {B : Int → Int} {len k cd pl hh cd1 pl1 bt f2 p2 : Int} (h : foI B len k cd pl hh cd1 pl1) (hb : rdB B len cd1 pl1 bt f2 p2) (h1 : bt = 1) (hl : hh + 1 < 2 ^ (24 - k).toNat) : foI B len k cd pl (hh + 1) f2 p2 := by
  obtain ⟨a1, a2, a3, a4, a5⟩ := fo_one h hb h1
  exact ⟨fun q => absurd a1 q, fun _ => Or.inl ⟨a4, hl, a3, a5⟩⟩
theorem fo_full {B : Int → Int} {len k cd pl hh cd1 pl1 bt f2 p2 f3 : Int} (h : foI B len k cd pl hh cd1 pl1) (hb : rdB B len cd1 pl1 bt f2 p2) (h1 : bt = 1) (hl : ¬ hh + 1 < 2 ^ (24 - k).toNat) (h3 : f3 = fltIf 1 f2 8) : foI B len k cd pl (hh + 1) f3 p2 ∧ f3 = 8 := by
  obtain ⟨a1, a2, a3, a4, a5⟩ := fo_one h hb h1
  have e : f3 = 8 := by rw [h3, ← flt_yes, if_pos a4]
  exact ⟨⟨fun q => absurd a1 q, fun _ => Or.inr ⟨e, rfold_many a5 (by omega)⟩⟩, e⟩
theorem fo_end {B : Int → Int} {len k cd pl hh cd1 pl1 bt f1 p1 r2 f2 p2 : Int} (h : foI B len k cd pl hh cd1 pl1) (hb : rdB B len cd1 pl1 bt f1 p1) (c : ¬ bt = 1) (hn : rdM B len f1 p1 k r2 f2 p2) : (cd = 0 → f2 = (rfold B len k pl).1 ∧ (f2 = 0 → unf (hh * 2 ^ k.toNat + r2) = (rfold B len k pl).2.1 ∧ p2 = (rfold B len k pl).2.2)) ∧ (¬ cd = 0 → f2 = cd) := by
  constructor
  · intro d
    rcases h.2 d with ⟨a1, a2, a3, a4⟩ | ⟨a1, a2⟩
    · subst a1
      exact rfM_end a3 a4 a2 hb c hn
    · have b1 := (hb.2 (fun q => by omega)).1
      rw [if_neg (by omega)] at b1
      have b2 := rdM_no hn (by omega)
      rw [a2]
      exact ⟨by omega, fun q => by omega⟩
  · intro d
    have a := (h.1 d).1
    have b1 := (hb.2 (fun q => by omega)).1
    rw [if_neg (by omega)] at b1
    have b2 := rdM_no hn (by omega)
    omega
theorem unf_u {u r : Int} (h : (u % 2 = 0 ∧ r = u / 2) ∨ (¬ u % 2 = 0 ∧ r = -((u + 1) / 2))) : r = unf u := by
  unfold unf
  rcases h with ⟨a, b⟩ | ⟨a, b⟩
  · rw [if_pos a]; exact b
  · rw [if_neg a]; omega
theorem hd_start {B c : Int → Int} {len b o sh each cnt k xx pl p : Int} {v : Int → Int} (he : 1 ≤ each) (hc : cnt = 2 ^ p.toNat) : hdI B len b o sh c each cnt k xx 0 pl v = partsR B len b o sh c each (2 ^ p.toNat) 0 pl v := by
  unfold hdI
  rw [if_pos (Int.zero_emod _), Int.zero_ediv, Int.sub_zero, pw_nat hc]
theorem elemT_go {β : Type} [Inhabited β] {R : Int × β} {G : Int → (Int → Int) → Int × β} {B c : Int → Int} {len b k xx o sh f1 p r f2 f3 p2 i n z : Int} {v : Int → Int} (h : contI R f1 (thenR (elemR B len b k xx o sh c (n - i).toNat i p v) G)) (hi : i < n) (hr : f1 = 0 → isRest B len k xx p r f2 p2) (hno : ¬ f1 = 0 → f2 = f1) (hz : z = ft c v o sh i + r) (h3 : (f2 = 0 ∧ fit z b ∧ f3 = f2) ∨ (f2 = 0 ∧ ¬ fit z b ∧ f3 = 8) ∨ (¬ f2 = 0 ∧ f3 = f2)) : contI R f3 (thenR (elemR B len b k xx o sh c (n - (i + 1)).toNat (i + 1) p2 (zup v i z)) G) := by
  by_cases d : f1 = 0
  · subst hz
    rcases h3 with ⟨a, b1, e⟩ | ⟨a, b1, e⟩ | ⟨a, e⟩
    · exact elemT_step (wr := 0) h d hi (hr d) (by rw [← flt_no]; exact e) (Or.inr ⟨rfl, b1⟩)
    · exact elemT_step (wr := 1) h d hi (hr d) (by rw [← flt_yes, if_pos a]; exact e) (Or.inl ⟨by decide, b1⟩)
    · by_cases q : fit (ft c v o sh i + r) b
      · exact elemT_step (wr := 0) h d hi (hr d) (by rw [← flt_no]; exact e) (Or.inr ⟨rfl, q⟩)
      · exact elemT_step (wr := 1) h d hi (hr d) (by rw [← flt_yes, if_neg a]; exact e) (Or.inl ⟨by decide, q⟩)
  · have e := hno d
    have e3 : f3 = f1 := by omega
    rw [e3]
    exact cI_any h d
theorem mayP_1 {p n o : Int} (hp : 0 ≤ p) (hn : 1 ≤ n ∧ n ≤ 400) (h : mayP p n o) : (1 ≤ n / 2 ^ p.toNat ∧ n / 2 ^ p.toNat ≤ 400) ∧ o ≤ n / 2 ^ p.toNat ∧ n = 2 ^ p.toNat * (n / 2 ^ p.toNat) := by
  have a := mayP_n hp h
  have b := Int.ediv_le_self (2 ^ p.toNat) (show 0 ≤ n by omega)
  have c := Int.ediv_nonneg (show 0 ≤ n by omega) (Int.le_of_lt (pw_pos p))
  refine ⟨⟨?_, by omega⟩, h.2.2, a⟩
  by_cases d : n / 2 ^ p.toNat = 0
  · rw [d, Int.mul_zero] at a; omega
  · omega
