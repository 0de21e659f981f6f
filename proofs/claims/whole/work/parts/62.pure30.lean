theorem isRn_eq {n fa pos : Int} {R S : RR} {v : Int → Int} (h : isRn n R fa pos v) (e : eqR n R S) : isRn n S fa pos v := by
  obtain ⟨h1, h2⟩ := h
  refine ⟨h1.trans e.1, fun z => ?_⟩
  obtain ⟨a, b⟩ := h2 z
  obtain ⟨c, d⟩ := e.2 (by omega)
  exact ⟨a.trans c, fun j x1 x2 => (b j x1 x2).trans (d j x1 x2)⟩
theorem row_end {n w cd2 cdF plF : Int} {R0 Rb S0 S1 : RR} {vF v6 : Int → Int} (hc : contI R0 cd2 (shlR w S0)) (hS : Rb = sR cd2 S1) (he : eqR n S1 S0) (h : isRn n Rb cdF plF vF) (h2 : cdF = 0 → ∀ j, 0 ≤ j → j < n → v6 j = vF j * 2 ^ w.toNat) : isRn n R0 cdF plF v6 := by
  by_cases d : cd2 = 0
  · rw [sR_0 d] at hS
    subst hS
    have h3 := isRn_eq h he
    have hR := hc.1 d
    by_cases z : cdF = 0
    · exact isRn_shl h3 (h2 z) hR
    · refine ⟨?_, fun q => absurd q z⟩
      rw [hR]
      unfold shlR thenR
      have := h3.1
      rw [if_neg (by omega)]
      exact this
  · have a : cdF = cd2 := by
      rw [h.1, hS]
      unfold sR
      rw [if_neg d]
    refine ⟨?_, fun q => absurd q (by omega)⟩
    rw [hc.2 d, a]
def lkI (B : Int → Int) (len cd2 pl2 left i cd3 pl3 : Int) (v : Int → Int) : Prop := (i = 0 ∧ cd3 = cd2 ∧ pl3 = pl2) ∨ (0 < i ∧ ∃ r0, rdM B len cd2 pl2 left r0 cd3 pl3 ∧ ∀ j, 0 ≤ j → j < i → v j = sgn r0 left)
theorem lk_end {B : Int → Int} {len cd2 pl2 left i cd3 pl3 n : Int} {v : Int → Int} {Rb : RR} (h : contI Rb cd2 (likeR B len left pl2)) (hl : lkI B len cd2 pl2 left i cd3 pl3 v) (hn : 1 ≤ n) (hx : n ≤ i ∨ ¬ cd3 = 0) : isRn n Rb cd3 pl3 v := by
  rcases hl with ⟨a, b, c⟩ | ⟨a, r0, b, c⟩
  · have d : ¬ cd2 = 0 := by omega
    rw [b]; exact isRn_bad h d
  · have z := cM_get (f := fun q p => (0, p, fun _ => sgn q left)) h b
    by_cases d : cd3 = 0
    · have e := z.1 d
      refine ⟨by rw [e]; exact d, fun _ => ?_⟩
      rw [e]
      exact ⟨rfl, fun j h1 h2 => c j h1 (by omega)⟩
    · exact isRn_bad z d
def foR (B : Int → Int) (len n b kd o : Int) (c : Int → Int) (pl : Int) (v : Int → Int) : RR := if kd = 7 then getR B len 4 pl (fun sh p2 => thenR (valsR B len 10 o.toNat 0 p2 c) (fun p3 c2 => restR B len n b o sh c2 p3 v)) else restR B len n b o 0 (cFix o) pl v
theorem foreR_7 {B c : Int → Int} {len n b kd pl : Int} {v : Int → Int} (h : kd = 7) : foreR B len n b kd c pl v = getR B len 2 pl (fun q p => fltR (n < q + 1) 5 (foR B len n b kd (q + 1) c p v)) := by
  unfold foreR foR
  rw [if_pos h]
  congr 1
  funext q p
  rw [if_pos h, Int.add_comm 1 q]
theorem foreR_f {B c : Int → Int} {len n b kd pl : Int} {v : Int → Int} (h : ¬ kd = 7) : foreR B len n b kd c pl v = fltR (n < kd - 2) 5 (foR B len n b kd (kd - 2) c pl v) := by
  unfold foreR foR
  rw [if_neg h, if_neg h]
theorem body_2 {B c : Int → Int} {len n b kd pl : Int} {v : Int → Int} (h : 2 ≤ kd) : bodyR B len n b kd c pl v = foreR B len n b kd c pl v := by
  unfold bodyR
  rw [if_neg (by omega), if_neg (by omega)]
theorem body_1 {B c : Int → Int} {len n b kd pl : Int} {v : Int → Int} (h : kd = 1) : bodyR B len n b kd c pl v = valsR B len b n.toNat 0 pl v := by
  unfold bodyR
  rw [if_neg (by omega), if_pos h]
theorem body_0 {B c : Int → Int} {len n b kd pl : Int} {v : Int → Int} (h : kd = 0) : bodyR B len n b kd c pl v = likeR B len b pl := by
  unfold bodyR
  rw [if_pos h]
def frF (B : Int → Int) (len pl : Int) : Int → Int → Int → Int → Int → Int × FB := fun n ch tn sb p => thenR (rowR B len n (rbF tn sb) z0 p z0) (fun p1 v0 => if ch = 2 then thenR (rowR B len n (rbS tn sb) z0 p1 z0) (fun p2 v1 => endR B len pl n ch tn sb (num B p 3) (num B p1 3) p2 v0 v1) else endR B len pl n ch tn sb (num B p 3) (-1) p1 v0 z0)
theorem frR_e (B : Int → Int) (len pl : Int) : frR B len pl = getR B len 9 (8 * pl) (fun a p => fltR (400 < 1 + a) 2 (hdA B len (frF B len pl) a p)) := hdR_e B len (8 * pl) (frF B len pl)
theorem rdM_1 {B : Int → Int} {len fa pos r f2 p2 : Int} (hp : pos ≤ 8 * len) (h : rdB B len fa pos r f2 p2) : rdM B len fa pos 1 r f2 p2 := by
  have z := rdM_step (k := 0) (by decide) (rdM_0 hp) h
  rw [show (0 : Int) + 1 = 1 by decide, show 2 * (0 : Int) + r = r by omega] at z
  exact z
theorem num_pos {B : Int → Int} {q : Int} {k : Nat} (h : bitAt B (q + k) = 1) : ∀ m : Nat, k < m → num B q m ≠ 0
  | 0, hm => by omega
  | m + 1, hm => by
    have a := num_in B q m
    have b := bitAt_01 B (q + m)
    show 2 * num B q m + bitAt B (q + m) ≠ 0
    by_cases c : k = m
    · subst c; omega
    · have := num_pos h m (by omega)
      omega
theorem pad_bad {R : Int × FB} {B : Int → Int} {len pos k : Int} {G : Int → Int × FB} (h : R = getR B len (-pos % 8) pos (fun pad p => fltR (¬ pad = 0) 9 (G p))) (hl : pos ≤ 8 * len) (hk : 0 ≤ k ∧ k < -pos % 8) (hb : bitAt B (pos + k) = 1) : R.1 = 9 := by
  rw [h]
  unfold getR
  rw [if_pos (by omega)]
  unfold fltR
  have z := num_pos (B := B) (q := pos) (k := k.toNat) (by rw [show (k.toNat : Int) = k by omega]; exact hb) (-pos % 8).toNat (by omega)
  show (if ¬ num B pos (-pos % 8).toNat = 0 then (9, default) else G (pos + -pos % 8) : Int × FB).1 = 9
  rw [if_pos z]
theorem pad_ok {R : Int × FB} {B : Int → Int} {len pos : Int} {G : Int → Int × FB} (h : R = getR B len (-pos % 8) pos (fun pad p => fltR (¬ pad = 0) 9 (G p))) (hl : pos ≤ 8 * len) (hn : num B pos (-pos % 8).toNat = 0) : R = G (pos + -pos % 8) := by
  rw [h]
  unfold getR
  rw [if_pos (by omega)]
  unfold fltR
  show (if ¬ num B pos (-pos % 8).toNat = 0 then (9, default) else G (pos + -pos % 8) : Int × FB) = _
  rw [if_neg (fun z => z hn)]
theorem rbF_is {t : Int} (s : Int) (h : 0 ≤ t ∧ t ≤ 3) : (t = 2 → rbF t s = s + 1) ∧ (¬ t = 2 → rbF t s = s) := by
  rcases (show t = 0 ∨ t = 1 ∨ t = 2 ∨ t = 3 by omega) with e | e | e | e <;> (subst e; exact ⟨fun z => by first | rfl | exact absurd z (by decide), fun z => by first | rfl | exact absurd rfl z⟩)
theorem rbS_is {t : Int} (s : Int) (h : 0 ≤ t ∧ t ≤ 3) : (t = 1 ∨ t = 3 → rbS t s = s + 1) ∧ (t = 0 ∨ t = 2 → rbS t s = s) := by
  rcases (show t = 0 ∨ t = 1 ∨ t = 2 ∨ t = 3 by omega) with e | e | e | e <;> (subst e; exact ⟨fun z => by first | rfl | exact absurd z (by decide), fun z => by first | rfl | exact absurd z (by decide)⟩)
def taR (B : Int → Int) (len pl n ch tn sb kd0 kd1 : Int) (v0 v1 : Int → Int) (p : Int) : Int × FB := getR B len 8 p (fun s p2 => fltR (¬ s = crc B pl (p / 8 - pl).toNat) 10 (fltR (¬ (tn = 0 ∨ uok tn sb v0 v1 n.toNat = true)) 11 (0, n, ch, tn, sb, kd0, kd1, p2 / 8, (fun j => utA tn (v0 j) (v1 j)), (fun j => utB tn (v0 j) (v1 j)))))
theorem endR_e (B : Int → Int) (len pl n ch tn sb kd0 kd1 pos : Int) (v0 v1 : Int → Int) : endR B len pl n ch tn sb kd0 kd1 pos v0 v1 = getR B len (-pos % 8) pos (fun pad p => fltR (¬ pad = 0) 9 (taR B len pl n ch tn sb kd0 kd1 v0 v1 p)) := rfl
