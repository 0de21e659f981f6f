/-! ===== the layer: ints by their mathematical values, one judgement JW of a point of a method, one contract form Ctr ===== -/
def iI (z : Int) : Int32 := Int32.ofInt z
def lI (z : Int) : Int64 := Int64.ofInt z
abbrev inR (z : Int) : Prop := -2147483648 ≤ z ∧ z < 2147483648
abbrev inL (z : Int) : Prop := -9223372036854775808 ≤ z ∧ z < 9223372036854775808
theorem iI_toInt {z : Int} (h : inR z) : (iI z).toInt = z := by
  unfold iI
  exact Int32.toInt_ofInt_of_le (by have := h.1; simpa using this) (by have := h.2; simpa using this)
theorem lI_toInt {z : Int} (h : inL z) : (lI z).toInt = z := by
  unfold lI
  exact Int64.toInt_ofInt_of_le (by have := h.1; simpa using this) (by have := h.2; simpa using this)
theorem iI_of (x : Int32) : iI x.toInt = x := Int32.ofInt_toInt x
theorem lI_of (x : Int64) : lI x.toInt = x := Int64.ofInt_toInt x
theorem inR_of (x : Int32) : inR x.toInt := ⟨Int32.le_toInt x, Int32.toInt_lt x⟩
theorem inL_of (x : Int64) : inL x.toInt := ⟨Int64.le_toInt x, Int64.toInt_lt x⟩
theorem iI_add (a b : Int) : iI a + iI b = iI (a + b) := (Int32.ofInt_add a b).symm
theorem iI_sub (a b : Int) : iI a - iI b = iI (a - b) := (Int32.ofInt_sub a b).symm
theorem iI_mul (a b : Int) : iI a * iI b = iI (a * b) := (Int32.ofInt_mul a b).symm
theorem iI_neg (a : Int) : -(iI a) = iI (-a) := (Int32.ofInt_neg a).symm
theorem lI_add (a b : Int) : lI a + lI b = lI (a + b) := (Int64.ofInt_add a b).symm
theorem lI_sub (a b : Int) : lI a - lI b = lI (a - b) := (Int64.ofInt_sub a b).symm
theorem lI_mul (a b : Int) : lI a * lI b = lI (a * b) := (Int64.ofInt_mul a b).symm
theorem lI_neg (a : Int) : -(lI a) = lI (-a) := (Int64.ofInt_neg a).symm
theorem iI_lt {a b : Int} (ha : inR a) (hb : inR b) : iI a < iI b ↔ a < b := by rw [Int32.lt_iff_toInt_lt, iI_toInt ha, iI_toInt hb]
theorem iI_le {a b : Int} (ha : inR a) (hb : inR b) : iI a ≤ iI b ↔ a ≤ b := by rw [Int32.le_iff_toInt_le, iI_toInt ha, iI_toInt hb]
theorem iI_eq {a b : Int} (ha : inR a) (hb : inR b) : iI a = iI b ↔ a = b := by rw [← Int32.toInt_inj, iI_toInt ha, iI_toInt hb]
theorem lI_lt {a b : Int} (ha : inL a) (hb : inL b) : lI a < lI b ↔ a < b := by rw [Int64.lt_iff_toInt_lt, lI_toInt ha, lI_toInt hb]
theorem lI_le {a b : Int} (ha : inL a) (hb : inL b) : lI a ≤ lI b ↔ a ≤ b := by rw [Int64.le_iff_toInt_le, lI_toInt ha, lI_toInt hb]
theorem lI_eq {a b : Int} (ha : inL a) (hb : inL b) : lI a = lI b ↔ a = b := by rw [← Int64.toInt_inj, lI_toInt ha, lI_toInt hb]
theorem iI_0 : iI 0 = 0 := rfl
theorem iI_l {a : Int} (h : inR a) : (iI a).toInt64 = lI a := by
  apply Int64.toInt_inj.mp
  rw [Int32.toInt_toInt64, iI_toInt h, lI_toInt (by omega)]
theorem lI_i (a : Int) : (lI a).toInt32 = iI a := by
  unfold lI iI
  exact Int64.toInt32_ofInt
theorem iI_nat (n : Nat) : iI (n : Int) = nI n := by
  unfold iI nI
  exact Int32.ofInt_eq_ofNat
theorem iI_clamp {a : Int} (h0 : 0 ≤ a) (h1 : a < 2147483648) : (iI a).toNatClampNeg = a.toNat := by
  unfold Int32.toNatClampNeg
  rw [iI_toInt (by omega)]
theorem iI_in {a : Int} {n : Nat} (h0 : 0 ≤ a) (h1 : a < n) (hn : n < 2147483648) : vp_in (iI a) n := vp_in_iff.mpr (by rw [iI_toInt (by omega)]; exact ⟨h0, h1⟩)
theorem iI_toBv (a : Int) : (iI a).toBitVec = BitVec.ofInt 32 a := by unfold iI; exact Int32.toBitVec_ofInt a
theorem lI_toBv (a : Int) : (lI a).toBitVec = BitVec.ofInt 64 a := by unfold lI; exact Int64.toBitVec_ofInt a
def zAnd (a b : Int) : Int := (iI a &&& iI b).toInt
def zOr (a b : Int) : Int := (iI a ||| iI b).toInt
def zXor (a b : Int) : Int := (iI a ^^^ iI b).toInt
def zAndL (a b : Int) : Int := (lI a &&& lI b).toInt
def zOrL (a b : Int) : Int := (lI a ||| lI b).toInt
theorem iI_and (a b : Int) : iI a &&& iI b = iI (zAnd a b) := (iI_of _).symm
theorem iI_or (a b : Int) : iI a ||| iI b = iI (zOr a b) := (iI_of _).symm
theorem iI_xor (a b : Int) : iI a ^^^ iI b = iI (zXor a b) := (iI_of _).symm
theorem lI_and (a b : Int) : lI a &&& lI b = lI (zAndL a b) := (lI_of _).symm
theorem lI_or (a b : Int) : lI a ||| lI b = lI (zOrL a b) := (lI_of _).symm
theorem sh32 (k : Nat) (hk : k < 32) : ((iI (k : Int) &&& 31).toBitVec.smod 32).toNat = k := by
  rw [iI_nat]
  have h : ∀ n, n < 32 → ((nI n &&& 31).toBitVec.smod 32).toNat = n := by decide +kernel
  exact h k hk
theorem shu32 (k : Nat) (hk : k < 32) : (((iI (k : Int)).toUInt32 &&& Int32.toUInt32 31).toBitVec % 32).toNat = k := by
  rw [iI_nat]
  have h : ∀ n, n < 32 → (((nI n).toUInt32 &&& Int32.toUInt32 31).toBitVec % 32).toNat = n := by decide +kernel
  exact h k hk
theorem iI_shr {a k : Int} (ha : inR a) (h0 : 0 ≤ k) (h1 : k < 32) : iI a >>> (iI k &&& 31) = iI (a / 2 ^ k.toNat) := by
  obtain ⟨n, rfl⟩ := Int.eq_ofNat_of_zero_le h0
  apply Int32.toInt_inj.mp
  rw [pk_shr _ _ n (sh32 n (by omega)), iI_toInt ha, Int.shiftRight_eq_div_pow]
  rw [iI_toInt]
  · rfl
  · have h2 : (0 : Int) < 2 ^ n := Int.pow_pos (by decide)
    constructor
    · have : -2147483648 ≤ a / 2 ^ n := by
        rw [Int.le_ediv_iff_mul_le h2]
        have h3 : (1 : Int) ≤ 2 ^ n := by omega
        have := Int.mul_le_mul_of_nonneg_left h3 (show (0:Int) ≤ 2147483648 by decide)
        have := ha.1
        omega
      exact this
    · have : a / 2 ^ n < 2147483648 := by
        rw [Int.ediv_lt_iff_lt_mul h2]
        have h3 : (1 : Int) ≤ 2 ^ n := by omega
        have := Int.mul_le_mul_of_nonneg_left h3 (show (0:Int) ≤ 2147483648 by decide)
        have := ha.2
        omega
      exact this
theorem iI_shl {a k : Int} (h0 : 0 ≤ k) (h1 : k < 32) : iI a <<< (iI k &&& 31) = iI (a * 2 ^ k.toNat) := by
  obtain ⟨n, rfl⟩ := Int.eq_ofNat_of_zero_le h0
  apply Int32.toBitVec_inj.mp
  apply BitVec.eq_of_toNat_eq
  rw [pk_shl _ _ n (sh32 n (by omega)), iI_toBv, iI_toBv, BitVec.toNat_ofInt, BitVec.toNat_ofInt, Int.toNat_natCast]
  have hM0 : ((2 ^ 32 : Nat) : Int) ≠ 0 := by decide
  generalize (2 ^ 32 : Nat) = M at hM0 ⊢
  apply Int.ofNat.inj
  show (((a % (M : Int)).toNat * 2 ^ n % M : Nat) : Int) = ((a * 2 ^ n % (M : Int)).toNat : Int)
  rw [Int.toNat_of_nonneg (Int.emod_nonneg _ hM0), Int.natCast_emod, Int.natCast_mul, Int.toNat_of_nonneg (Int.emod_nonneg _ hM0), Int.natCast_pow]
  rw [Int.mul_emod, Int.emod_emod_of_dvd _ (Int.dvd_refl _), ← Int.mul_emod]
  rfl
theorem zpow_le {k n : Nat} (h : k ≤ n) : (2 : Int) ^ k ≤ 2 ^ n := by
  have := Nat.pow_le_pow_right (n := 2) (by decide) h
  exact_mod_cast this
theorem zpow_dvd {k n : Nat} (h : k ≤ n) : (2 : Int) ^ k ∣ 2 ^ n := ⟨2 ^ (n - k), by rw [← Int.pow_add, Nat.add_sub_cancel' h]⟩
theorem bv_mod (a : Int) (k : Nat) (hk : k ≤ 32) : (((BitVec.ofInt 32 a).toNat % 2 ^ k : Nat) : Int) = a % 2 ^ k := by
  rw [BitVec.toNat_ofInt, Int.natCast_emod, Int.toNat_of_nonneg (Int.emod_nonneg _ (by decide)), Int.natCast_pow, Int.natCast_pow]
  exact Int.emod_emod_of_dvd _ (zpow_dvd hk)
theorem zAnd_mask {a m : Int} (k : Nat) (hk : k ≤ 30) (hm : m = 2 ^ k - 1) : zAnd a m = a % 2 ^ k := by
  have hp : (2 : Int) ^ k ≤ 2 ^ 30 := zpow_le hk
  have hp0 : (0 : Int) < 2 ^ k := Int.pow_pos (by decide)
  have h30 : (2 : Int) ^ 30 = 1073741824 := by decide
  have hb : (iI m).toBitVec.toNat = 2 ^ k - 1 := by
    rw [iI_toBv, BitVec.toNat_ofInt]
    have h2 : ((2 ^ 32 : Nat) : Int) = 4294967296 := by decide
    rw [h2, Int.emod_eq_of_lt (by omega) (by omega)]
    have h3 : ((2 ^ k : Nat) : Int) = 2 ^ k := Int.natCast_pow 2 k
    omega
  unfold zAnd
  rw [pk_and _ k hb, ← iI_nat, iI_toBv, bv_mod a k (by omega)]
  have h1 := Int.emod_nonneg a (show (2 : Int) ^ k ≠ 0 by omega)
  have h2 := Int.emod_lt_of_pos a hp0
  exact iI_toInt (by omega)
/-! static premises, words -/
def isNest : Cond → Bool
  | .fieldLinkNest .. => true
  | .methodLinkNest .. => true
  | _ => false
def TB : List Cond := lw_tbl.filter goodWord
def NL : List Cond := lw_tbl.filter isNest
abbrev GG : Type := va_G × (Nat → ClassId) × (Nat → Nat)
def gT (g : GG) : List (ClassId × FieldType) := [(g.2.1 0, .int), (g.2.1 1, .long), (g.2.1 2, .array .int), (g.2.1 3, .object "SamplePacks$RowForm")]
def zFirst : Nat → Int := fun k => [0, 0, 2, 3].getD k 0
def zSecond : Nat → Int := fun k => [1, 2, 1, 2].getD k 0
def zFixed : Nat → Int := fun k => [0, 0, 0, 0, 1, 0, 0, 0, 2, -1, 0, 0, 3, -3, 1, 0, 4, -6, 4, -1].getD k 0
def gS (g : GG) (A : Nat → Prop) (U : State) (H : Heap) : Prop :=
  (va_Z "SamplePacks" "FIRST_ROW" "[I" (.ref (g.2.2 0)) A U H ∧ va_T .int (g.2.2 0) 4 (fun k => .int (iI (zFirst k))) A U H) ∧
  (va_Z "SamplePacks" "SECOND_ROW" "[I" (.ref (g.2.2 1)) A U H ∧ va_T .int (g.2.2 1) 4 (fun k => .int (iI (zSecond k))) A U H) ∧
  (va_Z "SamplePacks" "FIXED_COEFFICIENTS" "[I" (.ref (g.2.2 2)) A U H ∧ va_T .int (g.2.2 2) 20 (fun k => .int (iI (zFixed k))) A U H)
theorem gS.moved {g : GG} {A : Nat → Prop} {u U : State} {H : Heap} (hvm : u.vm.Alike U.vm) (h : gS g A u H) : gS g A U H := ⟨⟨va_Z.moved hvm h.1.1, va_T.moved hvm h.1.2⟩, ⟨va_Z.moved hvm h.2.1.1, va_T.moved hvm h.2.1.2⟩, ⟨va_Z.moved hvm h.2.2.1, va_T.moved hvm h.2.2.2⟩⟩
theorem gS.kept {g : GG} {A : Nat → Prop} {U : State} {H H1 : Heap} (h : gS g A U H) (hq : ∀ a : Nat, a < H.size → ¬ A a → H1[a]? = H[a]?) : gS g A U H1 := ⟨⟨va_Z.kept h.1.1 hq, va_T.kept h.1.2 hq⟩, ⟨va_Z.kept h.2.1.1 hq, va_T.kept h.2.1.2 hq⟩, ⟨va_Z.kept h.2.2.1 hq, va_T.kept h.2.2.2 hq⟩⟩
theorem gS.narrow {g : GG} {A B : Nat → Prop} {U : State} {H : Heap} (h : gS g A U H) (hq : ∀ a, B a → A a) : gS g B U H := ⟨⟨va_Z.narrow h.1.1 hq, va_T.narrow h.1.2 hq⟩, ⟨va_Z.narrow h.2.1.1 hq, va_T.narrow h.2.1.2 hq⟩, ⟨va_Z.narrow h.2.2.1 hq, va_T.narrow h.2.2.2 hq⟩⟩
def gN (U : State) : Prop := ∀ w ∈ NL, va_Nw w U
theorem gN.warm {s U : State} (hW : s.WarmedH U.vm) (h : gN s) : gN U := by
  intro w hw
  have h1 := h w hw
  have h2 : isNest w = true := (List.mem_filter.mp hw).2
  cases w <;> first | exact va_Nw.warmF hW h1 | exact va_Nw.warmM hW h1 | cases h2
theorem gN.same {s U : State} (e : s.vm = U.vm) (h : gN s) : gN U := by
  intro w hw
  have h1 := h w hw
  have h2 : isNest w = true := (List.mem_filter.mp hw).2
  cases w <;> first | exact va_Nw.same rfl e h1 | cases h2
/-! the point of a method -/
abbrev XX : Type := (Program × Launch × Env × Room × State) × (MethodId × Array Value × List Frame × Method × Code) × (GG × (Nat → Prop) × Nat × (State → Prop))
abbrev XX.p (x : XX) : Program := x.1.1
abbrev XX.l (x : XX) : Launch := x.1.2.1
abbrev XX.e (x : XX) : Env := x.1.2.2.1
abbrev XX.R (x : XX) : Room := x.1.2.2.2.1
abbrev XX.s (x : XX) : State := x.1.2.2.2.2
abbrev XX.m (x : XX) : MethodId := x.2.1.1
abbrev XX.args (x : XX) : Array Value := x.2.1.2.1
abbrev XX.below (x : XX) : List Frame := x.2.1.2.2.1
abbrev XX.meth (x : XX) : Method := x.2.1.2.2.2.1
abbrev XX.c (x : XX) : Code := x.2.1.2.2.2.2
abbrev XX.g (x : XX) : GG := x.2.2.1
abbrev XX.A (x : XX) : Nat → Prop := x.2.2.2.1
abbrev XX.nL (x : XX) : Nat := x.2.2.2.2.1
abbrev XX.Q (x : XX) : State → Prop := x.2.2.2.2.2
def JB (x : XX) (cc : ByteArray) (own : String) (fr lo mc ms nL : Nat) : Prop :=
  x.p.tables.exec = Jvm.exec ∧ x.c.code = cc ∧ x.c.maxLocals = nL ∧ x.s.vm.findClass own = some x.m.cls ∧ (∀ w ∈ TB, w.before x.args x.s = true) ∧
  va_K x.g.1 vwCl (gT x.g) x.s ∧ gN x.s ∧ gS x.g x.A x.s x.s.heap ∧ (∀ q, x.s.heap.size ≤ q → x.A q) ∧
  (fr ≤ x.R.frames ∧ lo ≤ x.R.locals ∧ mc ≤ x.R.cells ∧ ms ≤ x.R.slots) ∧ x.nL = nL
def JW (x : XX) (ck sk pc : Nat) (lv : List (Nat × Value)) (st : List Value) (ws : va_W) : Prop :=
  ∀ (H : Heap) (locs : List Loc) (ls : Array Slot), va_P x.g.1 vwCl ws H → va_D x.A ws → va_S x.A x.s.heap H locs → lv_has ls x.nL lv →
    W x.p x.l x.e x.R x.s x.m x.args x.below x.meth x.c H locs ck sk x.Q (F0 x.m pc ls st)
/-- where a method ends: which world, what is owed -/
def cQ (g : GG) (ws : va_W) (sz : Nat) (Post : Option Value → va_W → Prop) : Array Value → State → Outcome → State → Prop := fun _ st oc t =>
  (∃ (v : Option Value) (w1 : va_W), oc = .returned v ∧ Post v w1 ∧ va_P g.1 vwCl w1 t.heap ∧ va_D (va_A ws sz) w1) ∧ va_F (va_A ws sz) st t
def JR (x : XX) (ret : Option FieldType) (mc ms : Nat) (ws : va_W) (Post : Option Value → va_W → Prop) : Prop :=
  x.meth.sig.returnType = ret ∧ x.meth.locks = false ∧ x.A = va_A ws x.s.heap.size ∧ x.Q = MQ x.below (cQ x.g ws x.s.heap.size Post) x.args x.s mc ms x.A
def cP (g : GG) (av : List Value) (ws : va_W) (sz : Nat) : Array Value → State → Prop :=
  va_Pc av (fun U => U.heap.size = sz ∧ va_P g.1 vwCl ws U.heap ∧ va_K g.1 vwCl (gT g) U ∧ va_D (fun _ => True) ws ∧ gN U ∧ gS g (va_A ws sz) U U.heap)
/-- a method's contract: from the world ws, with the arguments av, it returns, and Post -/
def Ctr (l : Launch) (g : GG) (y : MethodName) (bytes : ByteArray) (maxL : Nat) (ret : Option FieldType) (fr lo mc ms : Nat) (av : List Value) (ws : va_W) (Post : Option Value → va_W → Prop) : Prop :=
  ∀ sz : Nat, Met l y (Cond.code y bytes maxL ret :: TB) { frames := fr, cells := mc, slots := ms, locals := lo } (cP g av ws sz) (cQ g ws sz Post) mc ms (va_A ws sz)
theorem cP_blind (g : GG) (av : List Value) (ws : va_W) (sz : Nat) : FrameBlind (cP g av ws sz) := by
  intro a U fr mk h
  obtain ⟨e, h1, h2, h3, h4, h5, h6⟩ := h
  exact ⟨e, h1, h2, va_K.moved (u := U) (U := U.calling fr mk a) (Vm.Alike.refl U.vm) h3, h4, gN.same (s := U) (U := U.calling fr mk a) rfl h5, gS.moved (u := U) (U := U.calling fr mk a) (Vm.Alike.refl U.vm) h6⟩
theorem Ctr.of {l : Launch} {g : GG} {y : MethodName} {bytes : ByteArray} {maxL : Nat} {ret : Option FieldType} {fr lo mc ms : Nat} {av : List Value} {ws : va_W} {Post : Option Value → va_W → Prop} (lv : List (Nat × Value))
    (hy : plainName y.cls = true) (hav : (lg_sl av).length ≤ maxL) (hlv : lv_args 0 av = lv)
    (body : ∀ x : XX, x.l = l → x.g = g → JB x bytes y.cls fr lo mc ms maxL → JR x ret mc ms ws Post → (y.name = "<init>" → x.meth.name = "<init>") → JW x 0 0 0 lv [] ws) : Ctr l g y bytes maxL ret fr lo mc ms av ws Post := by
  intro sz
  refine Met.ofW (cc := bytes) (maxL := maxL) (ret := ret) hy rfl ?_
  intro p e s m args below meth c s₁ B hml hv
  obtain ⟨rfl, hsz, hP, hK, hD, hN, hS⟩ := hv
  subst hsz
  have hts : ∀ w ∈ TB, w.before av.toArray s = true := fun w hw => atoms_spec (ws := Cond.code y bytes maxL ret :: TB) B.pre w (List.mem_cons_of_mem _ hw)
  have hx := body ((p, l, e, { frames := fr, cells := mc, slots := ms, locals := lo }, s), (m, av.toArray, below, meth, c), (g, va_A ws s.heap.size, maxL, MQ below (cQ g ws s.heap.size Post) av.toArray s mc ms (va_A ws s.heap.size))) rfl rfl
    ⟨B.exec, B.bytes, hml, findClass_of_methodNamed B.named, hts, hK, hN, hS, fun q h => Or.inr h, ⟨Nat.le_refl _, Nat.le_refl _, Nat.le_refl _, Nat.le_refl _⟩, rfl⟩
    ⟨B.returns, B.notSynchronized, rfl, rfl⟩ (fun h => (name_of_methodNamed B.named B.method).1.trans h)
  have hl := lv_entry av hav
  rw [hlv] at hl
  rw [lg_entry_eq]
  exact hx s.heap [] _ hP (hD.self (sz := s.heap.size)) va_S.rf hl

theorem zpow_pos (k : Nat) : (0 : Int) < 2 ^ k := Int.pow_pos (by decide)
section JRows
variable {x : XX} {cc : ByteArray} {own : String} {fr lo mc ms nL ck sk pc : Nat} {lv : List (Nat × Value)} {st : List Value} {ws : va_W}
theorem j_iconst (B : JB x cc own fr lo mc ms nL) {n : Int} (d : decode cc pc = .ok (.iconst n, 1)) (k : JW x ck sk (pc + 1) lv (.int (iI n) :: st) ws) : JW x ck sk pc lv st ws := fun H locs ls hP hD hS hl => lv_iconst B.1 B.2.1 d rfl (k H locs ls hP hD hS hl)
theorem j_bipush (B : JB x cc own fr lo mc ms nL) {n : Int} (d : decode cc pc = .ok (.bipush n, 2)) (h : (Int8.ofInt n).toInt32 = iI n) (k : JW x ck sk (pc + 2) lv (.int (iI n) :: st) ws) : JW x ck sk pc lv st ws := fun H locs ls hP hD hS hl => lv_bipush B.1 B.2.1 d h (k H locs ls hP hD hS hl)
theorem j_sipush (B : JB x cc own fr lo mc ms nL) {n : Int} (d : decode cc pc = .ok (.sipush n, 3)) (h : (Int16.ofInt n).toInt32 = iI n) (k : JW x ck sk (pc + 3) lv (.int (iI n) :: st) ws) : JW x ck sk pc lv st ws := fun H locs ls hP hD hS hl => lv_sipush B.1 B.2.1 d h (k H locs ls hP hD hS hl)
theorem j_lconst (B : JB x cc own fr lo mc ms nL) {n : Fin 2} {z : Int} (d : decode cc pc = .ok (.lconst n, 1)) (h : Int64.ofNat (n : Nat) = lI z) (k : JW x ck sk (pc + 1) lv (.long (lI z) :: st) ws) : JW x ck sk pc lv st ws := fun H locs ls hP hD hS hl => lv_lconst B.1 B.2.1 d h (k H locs ls hP hD hS hl)
theorem j_ldc (B : JB x cc own fr lo mc ms nL) {i : Nat} {v : Int32} {z : Int} (w : Cond.constant own i v ∈ TB) (h : v = iI z) (d : decode cc pc = .ok (.ldc i, 2)) (k : JW x ck sk (pc + 2) lv (.int (iI z) :: st) ws) : JW x ck sk pc lv st ws := fun H locs ls hP hD hS hl => lv_ldc B.1 B.2.1 B.2.2.2.1 (B.2.2.2.2.1 _ w) d (by rw [h]; exact k H locs ls hP hD hS hl)
theorem j_ldcw (B : JB x cc own fr lo mc ms nL) {i : Nat} {v : Int32} {z : Int} (w : Cond.constant own i v ∈ TB) (h : v = iI z) (d : decode cc pc = .ok (.ldc_w i, 3)) (k : JW x ck sk (pc + 3) lv (.int (iI z) :: st) ws) : JW x ck sk pc lv st ws := fun H locs ls hP hD hS hl => lv_ldcw B.1 B.2.1 B.2.2.2.1 (B.2.2.2.2.1 _ w) d (by rw [h]; exact k H locs ls hP hD hS hl)
theorem j_ldc2 (B : JB x cc own fr lo mc ms nL) {i : Nat} {v : Int64} {z : Int} (w : Cond.constantLong own i v ∈ TB) (h : v = lI z) (d : decode cc pc = .ok (.ldc2_w i, 3)) (k : JW x ck sk (pc + 3) lv (.long (lI z) :: st) ws) : JW x ck sk pc lv st ws := fun H locs ls hP hD hS hl => lv_ldc2 B.1 B.2.1 B.2.2.2.1 (B.2.2.2.2.1 _ w) d (by rw [h]; exact k H locs ls hP hD hS hl)
theorem j_iload_n (B : JB x cc own fr lo mc ms nL) {n : Fin 4} {v : Int32} (d : decode cc pc = .ok (.iload_n n, 1)) (q : Nat) (h : lv[q]? = some ((n : Nat), .int v)) (k : JW x ck sk (pc + 1) lv (.int v :: st) ws) : JW x ck sk pc lv st ws := fun H locs ls hP hD hS hl => lv_iload_n B.1 B.2.1 d rfl (lv_at hl q h) (k H locs ls hP hD hS hl)
theorem j_iload (B : JB x cc own fr lo mc ms nL) {n : Nat} {v : Int32} (d : decode cc pc = .ok (.iload n, 2)) (q : Nat) (h : lv[q]? = some (n, .int v)) (k : JW x ck sk (pc + 2) lv (.int v :: st) ws) : JW x ck sk pc lv st ws := fun H locs ls hP hD hS hl => lv_iload B.1 B.2.1 d (lv_at hl q h) (k H locs ls hP hD hS hl)
theorem j_lload_n (B : JB x cc own fr lo mc ms nL) {n : Fin 4} {v : Int64} (d : decode cc pc = .ok (.lload_n n, 1)) (q : Nat) (h : lv[q]? = some ((n : Nat), .long v)) (k : JW x ck sk (pc + 1) lv (.long v :: st) ws) : JW x ck sk pc lv st ws := fun H locs ls hP hD hS hl => lv_lload_n B.1 B.2.1 d rfl (lv_at hl q h) (k H locs ls hP hD hS hl)
theorem j_lload (B : JB x cc own fr lo mc ms nL) {n : Nat} {v : Int64} (d : decode cc pc = .ok (.lload n, 2)) (q : Nat) (h : lv[q]? = some (n, .long v)) (k : JW x ck sk (pc + 2) lv (.long v :: st) ws) : JW x ck sk pc lv st ws := fun H locs ls hP hD hS hl => lv_lload B.1 B.2.1 d (lv_at hl q h) (k H locs ls hP hD hS hl)
theorem j_aload_n (B : JB x cc own fr lo mc ms nL) {n : Fin 4} {v : Nat} (d : decode cc pc = .ok (.aload_n n, 1)) (q : Nat) (h : lv[q]? = some ((n : Nat), .ref v)) (k : JW x ck sk (pc + 1) lv (.ref v :: st) ws) : JW x ck sk pc lv st ws := fun H locs ls hP hD hS hl => lv_aload_n B.1 B.2.1 d rfl (lv_at hl q h) (k H locs ls hP hD hS hl)
theorem j_aload (B : JB x cc own fr lo mc ms nL) {n : Nat} {v : Nat} (d : decode cc pc = .ok (.aload n, 2)) (q : Nat) (h : lv[q]? = some (n, .ref v)) (k : JW x ck sk (pc + 2) lv (.ref v :: st) ws) : JW x ck sk pc lv st ws := fun H locs ls hP hD hS hl => lv_aload B.1 B.2.1 d (lv_at hl q h) (k H locs ls hP hD hS hl)
theorem j_istore_n (B : JB x cc own fr lo mc ms nL) {n : Fin 4} {i : Nat} {v : Int32} {lv' : List (Nat × Value)} (d : decode cc pc = .ok (.istore_n n, 1)) (hi : (n : Nat) = i) (hn : i < nL) (hl' : (i, Value.int v) :: lv.filter (fun q => !(q.1 == i) && !(q.1 + 1 == i && q.2.category == 2)) = lv') (k : JW x ck sk (pc + 1) lv' st ws) : JW x ck sk pc lv (.int v :: st) ws := fun H locs ls hP hD hS hl => lv_istore_n B.1 B.2.1 d hi hl (by rw [B.2.2.2.2.2.2.2.2.2.2]; exact hn) hl' (fun ls' h => k H locs ls' hP hD hS h)
theorem j_istore (B : JB x cc own fr lo mc ms nL) {i : Nat} {v : Int32} {lv' : List (Nat × Value)} (d : decode cc pc = .ok (.istore i, 2)) (hn : i < nL) (hl' : (i, Value.int v) :: lv.filter (fun q => !(q.1 == i) && !(q.1 + 1 == i && q.2.category == 2)) = lv') (k : JW x ck sk (pc + 2) lv' st ws) : JW x ck sk pc lv (.int v :: st) ws := fun H locs ls hP hD hS hl => lv_istore B.1 B.2.1 d hl (by rw [B.2.2.2.2.2.2.2.2.2.2]; exact hn) hl' (fun ls' h => k H locs ls' hP hD hS h)
theorem j_lstore_n (B : JB x cc own fr lo mc ms nL) {n : Fin 4} {i : Nat} {v : Int64} {lv' : List (Nat × Value)} (d : decode cc pc = .ok (.lstore_n n, 1)) (hi : (n : Nat) = i) (hn : i + 1 < nL) (hl' : (i, Value.long v) :: lv.filter (fun q => !(q.1 == i) && (!(q.1 == i + 1) && !(q.1 + 1 == i && q.2.category == 2))) = lv') (k : JW x ck sk (pc + 1) lv' st ws) : JW x ck sk pc lv (.long v :: st) ws := fun H locs ls hP hD hS hl => lv_lstore_n B.1 B.2.1 d hi hl (by rw [B.2.2.2.2.2.2.2.2.2.2]; exact hn) hl' (fun ls' h => k H locs ls' hP hD hS h)
theorem j_lstore (B : JB x cc own fr lo mc ms nL) {i : Nat} {v : Int64} {lv' : List (Nat × Value)} (d : decode cc pc = .ok (.lstore i, 2)) (hn : i + 1 < nL) (hl' : (i, Value.long v) :: lv.filter (fun q => !(q.1 == i) && (!(q.1 == i + 1) && !(q.1 + 1 == i && q.2.category == 2))) = lv') (k : JW x ck sk (pc + 2) lv' st ws) : JW x ck sk pc lv (.long v :: st) ws := fun H locs ls hP hD hS hl => lv_lstore B.1 B.2.1 d hl (by rw [B.2.2.2.2.2.2.2.2.2.2]; exact hn) hl' (fun ls' h => k H locs ls' hP hD hS h)
theorem j_astore_n (B : JB x cc own fr lo mc ms nL) {n : Fin 4} {i : Nat} {v : Nat} {lv' : List (Nat × Value)} (d : decode cc pc = .ok (.astore_n n, 1)) (hi : (n : Nat) = i) (hn : i < nL) (hl' : (i, Value.ref v) :: lv.filter (fun q => !(q.1 == i) && !(q.1 + 1 == i && q.2.category == 2)) = lv') (k : JW x ck sk (pc + 1) lv' st ws) : JW x ck sk pc lv (.ref v :: st) ws := fun H locs ls hP hD hS hl => lv_astore_n B.1 B.2.1 d hi hl (by rw [B.2.2.2.2.2.2.2.2.2.2]; exact hn) hl' (fun ls' h => k H locs ls' hP hD hS h)
theorem j_astore (B : JB x cc own fr lo mc ms nL) {i : Nat} {v : Nat} {lv' : List (Nat × Value)} (d : decode cc pc = .ok (.astore i, 2)) (hn : i < nL) (hl' : (i, Value.ref v) :: lv.filter (fun q => !(q.1 == i) && !(q.1 + 1 == i && q.2.category == 2)) = lv') (k : JW x ck sk (pc + 2) lv' st ws) : JW x ck sk pc lv (.ref v :: st) ws := fun H locs ls hP hD hS hl => lv_astore B.1 B.2.1 d hl (by rw [B.2.2.2.2.2.2.2.2.2.2]; exact hn) hl' (fun ls' h => k H locs ls' hP hD hS h)
theorem j_iinc (B : JB x cc own fr lo mc ms nL) {i : Nat} {n z : Int} {lv' : List (Nat × Value)} (d : decode cc pc = .ok (.iinc i n, 3)) (q : Nat) (h : lv[q]? = some (i, .int (iI z))) (hn : i < nL) (hl' : (i, Value.int (iI (z + n))) :: lv.filter (fun q => !(q.1 == i) && !(q.1 + 1 == i && q.2.category == 2)) = lv') (k : JW x ck sk (pc + 3) lv' st ws) : JW x ck sk pc lv st ws := fun H locs ls hP hD hS hl => lv_iinc (v := iI (z + n)) B.1 B.2.1 d hl h (iI_add z n) (by rw [B.2.2.2.2.2.2.2.2.2.2]; exact hn) hl' (fun ls' h => k H locs ls' hP hD hS h)
theorem j_iadd (B : JB x cc own fr lo mc ms nL) {a b : Int} (d : decode cc pc = .ok (.iadd, 1)) (k : JW x ck sk (pc + 1) lv (.int (iI (a + b)) :: st) ws) : JW x ck sk pc lv (.int (iI b) :: .int (iI a) :: st) ws := fun H locs ls hP hD hS hl => lv_iadd B.1 B.2.1 d (by rw [iI_add]; exact k H locs ls hP hD hS hl)
theorem j_isub (B : JB x cc own fr lo mc ms nL) {a b : Int} (d : decode cc pc = .ok (.isub, 1)) (k : JW x ck sk (pc + 1) lv (.int (iI (a - b)) :: st) ws) : JW x ck sk pc lv (.int (iI b) :: .int (iI a) :: st) ws := fun H locs ls hP hD hS hl => lv_isub B.1 B.2.1 d (by rw [iI_sub]; exact k H locs ls hP hD hS hl)
theorem j_imul (B : JB x cc own fr lo mc ms nL) {a b : Int} (d : decode cc pc = .ok (.imul, 1)) (k : JW x ck sk (pc + 1) lv (.int (iI (a * b)) :: st) ws) : JW x ck sk pc lv (.int (iI b) :: .int (iI a) :: st) ws := fun H locs ls hP hD hS hl => lv_imul B.1 B.2.1 d (by rw [iI_mul]; exact k H locs ls hP hD hS hl)
theorem j_iand (B : JB x cc own fr lo mc ms nL) {a b : Int} (d : decode cc pc = .ok (.iand, 1)) (k : JW x ck sk (pc + 1) lv (.int (iI (zAnd a b)) :: st) ws) : JW x ck sk pc lv (.int (iI b) :: .int (iI a) :: st) ws := fun H locs ls hP hD hS hl => lv_iand B.1 B.2.1 d (by rw [iI_and]; exact k H locs ls hP hD hS hl)
theorem j_ior (B : JB x cc own fr lo mc ms nL) {a b : Int} (d : decode cc pc = .ok (.ior, 1)) (k : JW x ck sk (pc + 1) lv (.int (iI (zOr a b)) :: st) ws) : JW x ck sk pc lv (.int (iI b) :: .int (iI a) :: st) ws := fun H locs ls hP hD hS hl => lv_ior B.1 B.2.1 d (by rw [iI_or]; exact k H locs ls hP hD hS hl)
theorem j_ixor (B : JB x cc own fr lo mc ms nL) {a b : Int} (d : decode cc pc = .ok (.ixor, 1)) (k : JW x ck sk (pc + 1) lv (.int (iI (zXor a b)) :: st) ws) : JW x ck sk pc lv (.int (iI b) :: .int (iI a) :: st) ws := fun H locs ls hP hD hS hl => lv_ixor B.1 B.2.1 d (by rw [iI_xor]; exact k H locs ls hP hD hS hl)
theorem j_ladd (B : JB x cc own fr lo mc ms nL) {a b : Int} (d : decode cc pc = .ok (.ladd, 1)) (k : JW x ck sk (pc + 1) lv (.long (lI (a + b)) :: st) ws) : JW x ck sk pc lv (.long (lI b) :: .long (lI a) :: st) ws := fun H locs ls hP hD hS hl => lv_ladd B.1 B.2.1 d (by rw [lI_add]; exact k H locs ls hP hD hS hl)
theorem j_lsub (B : JB x cc own fr lo mc ms nL) {a b : Int} (d : decode cc pc = .ok (.lsub, 1)) (k : JW x ck sk (pc + 1) lv (.long (lI (a - b)) :: st) ws) : JW x ck sk pc lv (.long (lI b) :: .long (lI a) :: st) ws := fun H locs ls hP hD hS hl => lv_lsub B.1 B.2.1 d (by rw [lI_sub]; exact k H locs ls hP hD hS hl)
theorem j_lmul (B : JB x cc own fr lo mc ms nL) {a b : Int} (d : decode cc pc = .ok (.lmul, 1)) (k : JW x ck sk (pc + 1) lv (.long (lI (a * b)) :: st) ws) : JW x ck sk pc lv (.long (lI b) :: .long (lI a) :: st) ws := fun H locs ls hP hD hS hl => lv_lmul B.1 B.2.1 d (by rw [lI_mul]; exact k H locs ls hP hD hS hl)
theorem j_land (B : JB x cc own fr lo mc ms nL) {a b : Int} (d : decode cc pc = .ok (.land, 1)) (k : JW x ck sk (pc + 1) lv (.long (lI (zAndL a b)) :: st) ws) : JW x ck sk pc lv (.long (lI b) :: .long (lI a) :: st) ws := fun H locs ls hP hD hS hl => lv_land B.1 B.2.1 d (by rw [lI_and]; exact k H locs ls hP hD hS hl)
theorem j_lor (B : JB x cc own fr lo mc ms nL) {a b : Int} (d : decode cc pc = .ok (.lor, 1)) (k : JW x ck sk (pc + 1) lv (.long (lI (zOrL a b)) :: st) ws) : JW x ck sk pc lv (.long (lI b) :: .long (lI a) :: st) ws := fun H locs ls hP hD hS hl => lv_lor B.1 B.2.1 d (by rw [lI_or]; exact k H locs ls hP hD hS hl)
theorem j_ineg (B : JB x cc own fr lo mc ms nL) {a : Int} (d : decode cc pc = .ok (.ineg, 1)) (k : JW x ck sk (pc + 1) lv (.int (iI (-a)) :: st) ws) : JW x ck sk pc lv (.int (iI a) :: st) ws := fun H locs ls hP hD hS hl => lv_ineg B.1 B.2.1 d (by rw [iI_neg]; exact k H locs ls hP hD hS hl)
theorem j_lneg (B : JB x cc own fr lo mc ms nL) {a : Int} (d : decode cc pc = .ok (.lneg, 1)) (k : JW x ck sk (pc + 1) lv (.long (lI (-a)) :: st) ws) : JW x ck sk pc lv (.long (lI a) :: st) ws := fun H locs ls hP hD hS hl => lv_lneg B.1 B.2.1 d (by rw [lI_neg]; exact k H locs ls hP hD hS hl)
theorem j_i2l (B : JB x cc own fr lo mc ms nL) {a : Int} (d : decode cc pc = .ok (.i2l, 1)) (h : inR a) (k : JW x ck sk (pc + 1) lv (.long (lI a) :: st) ws) : JW x ck sk pc lv (.int (iI a) :: st) ws := fun H locs ls hP hD hS hl => lv_i2l B.1 B.2.1 d (iI_l h) (k H locs ls hP hD hS hl)
theorem j_l2i (B : JB x cc own fr lo mc ms nL) {a : Int} (d : decode cc pc = .ok (.l2i, 1)) (k : JW x ck sk (pc + 1) lv (.int (iI a) :: st) ws) : JW x ck sk pc lv (.long (lI a) :: st) ws := fun H locs ls hP hD hS hl => lv_l2i B.1 B.2.1 d (lI_i a) (k H locs ls hP hD hS hl)
theorem j_ishl (B : JB x cc own fr lo mc ms nL) {a b : Int} (d : decode cc pc = .ok (.ishl, 1)) (h : 0 ≤ b ∧ b < 32) (k : JW x ck sk (pc + 1) lv (.int (iI (a * 2 ^ b.toNat)) :: st) ws) : JW x ck sk pc lv (.int (iI b) :: .int (iI a) :: st) ws := fun H locs ls hP hD hS hl => lv_ishl B.1 B.2.1 d (by rw [iI_shl h.1 h.2]; exact k H locs ls hP hD hS hl)
theorem j_ishr (B : JB x cc own fr lo mc ms nL) {a b : Int} (d : decode cc pc = .ok (.ishr, 1)) (ha : inR a) (h : 0 ≤ b ∧ b < 32) (k : JW x ck sk (pc + 1) lv (.int (iI (a / 2 ^ b.toNat)) :: st) ws) : JW x ck sk pc lv (.int (iI b) :: .int (iI a) :: st) ws := fun H locs ls hP hD hS hl => lv_ishr B.1 B.2.1 d (by rw [iI_shr ha h.1 h.2]; exact k H locs ls hP hD hS hl)
theorem j_dup (B : JB x cc own fr lo mc ms nL) {v : Value} (d : decode cc pc = .ok (.dup, 1)) (h : v.category = 1) (k : JW x ck sk (pc + 1) lv (v :: v :: st) ws) : JW x ck sk pc lv (v :: st) ws := fun H locs ls hP hD hS hl => lv_dup B.1 B.2.1 d h (k H locs ls hP hD hS hl)
theorem j_dup2 (B : JB x cc own fr lo mc ms nL) {v w : Value} (d : decode cc pc = .ok (.dup2, 1)) (h : v.category = 1) (h2 : w.category = 1) (k : JW x ck sk (pc + 1) lv (v :: w :: v :: w :: st) ws) : JW x ck sk pc lv (v :: w :: st) ws := fun H locs ls hP hD hS hl => lv_dup2_11 B.1 B.2.1 d h h2 (k H locs ls hP hD hS hl)
theorem j_pop (B : JB x cc own fr lo mc ms nL) {v : Value} (d : decode cc pc = .ok (.pop, 1)) (h : v.category = 1) (k : JW x ck sk (pc + 1) lv st ws) : JW x ck sk pc lv (v :: st) ws := fun H locs ls hP hD hS hl => lv_pop B.1 B.2.1 d h (k H locs ls hP hD hS hl)
theorem j_goto (B : JB x cc own fr lo mc ms nL) {off : Int} {tgt : Nat} (d : decode cc pc = .ok (.goto off, 3)) (ht : (pc : Int) + off = (tgt : Int)) (k : JW x ck sk tgt lv st ws) : JW x ck sk pc lv st ws := fun H locs ls hP hD hS hl => lv_goto B.1 B.2.1 d ht (k H locs ls hP hD hS hl)
theorem j_icmp_eq (B : JB x cc own fr lo mc ms nL) {a b off : Int} {tgt : Nat} (d : decode cc pc = .ok (.if_icmp .eq off, 3)) (ht : (pc : Int) + off = (tgt : Int)) (ha : inR a) (hb : inR b) (kt : a = b → JW x ck sk tgt lv st ws) (kf : ¬ a = b → JW x ck sk (pc + 3) lv st ws) : JW x ck sk pc lv (.int (iI b) :: .int (iI a) :: st) ws := fun H locs ls hP hD hS hl => lv_icmp_eq B.1 B.2.1 d ht (fun h => kt ((iI_eq ha hb).mp h) H locs ls hP hD hS hl) (fun h => kf (fun q => h ((iI_eq ha hb).mpr q)) H locs ls hP hD hS hl)
theorem j_if_eq (B : JB x cc own fr lo mc ms nL) {a off : Int} {tgt : Nat} (d : decode cc pc = .ok (.ifCond .eq off, 3)) (ht : (pc : Int) + off = (tgt : Int)) (ha : inR a) (kt : a = 0 → JW x ck sk tgt lv st ws) (kf : ¬ a = 0 → JW x ck sk (pc + 3) lv st ws) : JW x ck sk pc lv (.int (iI a) :: st) ws := fun H locs ls hP hD hS hl => lv_if_eq B.1 B.2.1 d ht (fun h => kt ((iI_eq ha (show inR 0 by decide)).mp h) H locs ls hP hD hS hl) (fun h => kf (fun q => h ((iI_eq ha (show inR 0 by decide)).mpr q)) H locs ls hP hD hS hl)
theorem j_icmp_ne (B : JB x cc own fr lo mc ms nL) {a b off : Int} {tgt : Nat} (d : decode cc pc = .ok (.if_icmp .ne off, 3)) (ht : (pc : Int) + off = (tgt : Int)) (ha : inR a) (hb : inR b) (kt : ¬ a = b → JW x ck sk tgt lv st ws) (kf : a = b → JW x ck sk (pc + 3) lv st ws) : JW x ck sk pc lv (.int (iI b) :: .int (iI a) :: st) ws := fun H locs ls hP hD hS hl => lv_icmp_ne B.1 B.2.1 d ht (fun h => kt (fun q => h ((iI_eq ha hb).mpr q)) H locs ls hP hD hS hl) (fun h => kf ((iI_eq ha hb).mp h) H locs ls hP hD hS hl)
theorem j_if_ne (B : JB x cc own fr lo mc ms nL) {a off : Int} {tgt : Nat} (d : decode cc pc = .ok (.ifCond .ne off, 3)) (ht : (pc : Int) + off = (tgt : Int)) (ha : inR a) (kt : ¬ a = 0 → JW x ck sk tgt lv st ws) (kf : a = 0 → JW x ck sk (pc + 3) lv st ws) : JW x ck sk pc lv (.int (iI a) :: st) ws := fun H locs ls hP hD hS hl => lv_if_ne B.1 B.2.1 d ht (fun h => kt (fun q => h ((iI_eq ha (show inR 0 by decide)).mpr q)) H locs ls hP hD hS hl) (fun h => kf ((iI_eq ha (show inR 0 by decide)).mp h) H locs ls hP hD hS hl)
theorem j_icmp_lt (B : JB x cc own fr lo mc ms nL) {a b off : Int} {tgt : Nat} (d : decode cc pc = .ok (.if_icmp .lt off, 3)) (ht : (pc : Int) + off = (tgt : Int)) (ha : inR a) (hb : inR b) (kt : a < b → JW x ck sk tgt lv st ws) (kf : ¬ a < b → JW x ck sk (pc + 3) lv st ws) : JW x ck sk pc lv (.int (iI b) :: .int (iI a) :: st) ws := fun H locs ls hP hD hS hl => lv_icmp_lt B.1 B.2.1 d ht (fun h => kt ((iI_lt ha hb).mp h) H locs ls hP hD hS hl) (fun h => kf (fun q => h ((iI_lt ha hb).mpr q)) H locs ls hP hD hS hl)
theorem j_if_lt (B : JB x cc own fr lo mc ms nL) {a off : Int} {tgt : Nat} (d : decode cc pc = .ok (.ifCond .lt off, 3)) (ht : (pc : Int) + off = (tgt : Int)) (ha : inR a) (kt : a < 0 → JW x ck sk tgt lv st ws) (kf : ¬ a < 0 → JW x ck sk (pc + 3) lv st ws) : JW x ck sk pc lv (.int (iI a) :: st) ws := fun H locs ls hP hD hS hl => lv_if_lt B.1 B.2.1 d ht (fun h => kt ((iI_lt ha (show inR 0 by decide)).mp h) H locs ls hP hD hS hl) (fun h => kf (fun q => h ((iI_lt ha (show inR 0 by decide)).mpr q)) H locs ls hP hD hS hl)
theorem j_icmp_ge (B : JB x cc own fr lo mc ms nL) {a b off : Int} {tgt : Nat} (d : decode cc pc = .ok (.if_icmp .ge off, 3)) (ht : (pc : Int) + off = (tgt : Int)) (ha : inR a) (hb : inR b) (kt : b ≤ a → JW x ck sk tgt lv st ws) (kf : ¬ b ≤ a → JW x ck sk (pc + 3) lv st ws) : JW x ck sk pc lv (.int (iI b) :: .int (iI a) :: st) ws := fun H locs ls hP hD hS hl => lv_icmp_ge B.1 B.2.1 d ht (fun h => kt ((iI_le hb ha).mp h) H locs ls hP hD hS hl) (fun h => kf (fun q => h ((iI_le hb ha).mpr q)) H locs ls hP hD hS hl)
theorem j_if_ge (B : JB x cc own fr lo mc ms nL) {a off : Int} {tgt : Nat} (d : decode cc pc = .ok (.ifCond .ge off, 3)) (ht : (pc : Int) + off = (tgt : Int)) (ha : inR a) (kt : 0 ≤ a → JW x ck sk tgt lv st ws) (kf : ¬ 0 ≤ a → JW x ck sk (pc + 3) lv st ws) : JW x ck sk pc lv (.int (iI a) :: st) ws := fun H locs ls hP hD hS hl => lv_if_ge B.1 B.2.1 d ht (fun h => kt ((iI_le (show inR 0 by decide) ha).mp h) H locs ls hP hD hS hl) (fun h => kf (fun q => h ((iI_le (show inR 0 by decide) ha).mpr q)) H locs ls hP hD hS hl)
theorem j_icmp_gt (B : JB x cc own fr lo mc ms nL) {a b off : Int} {tgt : Nat} (d : decode cc pc = .ok (.if_icmp .gt off, 3)) (ht : (pc : Int) + off = (tgt : Int)) (ha : inR a) (hb : inR b) (kt : b < a → JW x ck sk tgt lv st ws) (kf : ¬ b < a → JW x ck sk (pc + 3) lv st ws) : JW x ck sk pc lv (.int (iI b) :: .int (iI a) :: st) ws := fun H locs ls hP hD hS hl => lv_icmp_gt B.1 B.2.1 d ht (fun h => kt ((iI_lt hb ha).mp h) H locs ls hP hD hS hl) (fun h => kf (fun q => h ((iI_lt hb ha).mpr q)) H locs ls hP hD hS hl)
theorem j_if_gt (B : JB x cc own fr lo mc ms nL) {a off : Int} {tgt : Nat} (d : decode cc pc = .ok (.ifCond .gt off, 3)) (ht : (pc : Int) + off = (tgt : Int)) (ha : inR a) (kt : 0 < a → JW x ck sk tgt lv st ws) (kf : ¬ 0 < a → JW x ck sk (pc + 3) lv st ws) : JW x ck sk pc lv (.int (iI a) :: st) ws := fun H locs ls hP hD hS hl => lv_if_gt B.1 B.2.1 d ht (fun h => kt ((iI_lt (show inR 0 by decide) ha).mp h) H locs ls hP hD hS hl) (fun h => kf (fun q => h ((iI_lt (show inR 0 by decide) ha).mpr q)) H locs ls hP hD hS hl)
theorem j_icmp_le (B : JB x cc own fr lo mc ms nL) {a b off : Int} {tgt : Nat} (d : decode cc pc = .ok (.if_icmp .le off, 3)) (ht : (pc : Int) + off = (tgt : Int)) (ha : inR a) (hb : inR b) (kt : a ≤ b → JW x ck sk tgt lv st ws) (kf : ¬ a ≤ b → JW x ck sk (pc + 3) lv st ws) : JW x ck sk pc lv (.int (iI b) :: .int (iI a) :: st) ws := fun H locs ls hP hD hS hl => lv_icmp_le B.1 B.2.1 d ht (fun h => kt ((iI_le ha hb).mp h) H locs ls hP hD hS hl) (fun h => kf (fun q => h ((iI_le ha hb).mpr q)) H locs ls hP hD hS hl)
theorem j_if_le (B : JB x cc own fr lo mc ms nL) {a off : Int} {tgt : Nat} (d : decode cc pc = .ok (.ifCond .le off, 3)) (ht : (pc : Int) + off = (tgt : Int)) (ha : inR a) (kt : a ≤ 0 → JW x ck sk tgt lv st ws) (kf : ¬ a ≤ 0 → JW x ck sk (pc + 3) lv st ws) : JW x ck sk pc lv (.int (iI a) :: st) ws := fun H locs ls hP hD hS hl => lv_if_le B.1 B.2.1 d ht (fun h => kt ((iI_le ha (show inR 0 by decide)).mp h) H locs ls hP hD hS hl) (fun h => kf (fun q => h ((iI_le ha (show inR 0 by decide)).mpr q)) H locs ls hP hD hS hl)
theorem j_lcmp_eq (B : JB x cc own fr lo mc ms nL) {a b off : Int} {tgt : Nat} (d0 : decode cc pc = .ok (.lcmp, 1)) (d : decode cc (pc + 1) = .ok (.ifCond .eq off, 3)) (ht : ((pc + 1 : Nat) : Int) + off = (tgt : Int)) (ha : inL a) (hb : inL b) (kt : a = b → JW x ck sk tgt lv st ws) (kf : ¬ a = b → JW x ck sk (pc + 4) lv st ws) : JW x ck sk pc lv (.long (lI b) :: .long (lI a) :: st) ws := fun H locs ls hP hD hS hl => W.lcmp B.1 B.2.1 d0 (lv_if_eq B.1 B.2.1 d ht (fun h => kt ((lI_eq ha hb).mp ((lg_cmp_eq _ _).mp h)) H locs ls hP hD hS hl) (fun h => kf (fun q => h ((lg_cmp_eq _ _).mpr ((lI_eq ha hb).mpr q))) H locs ls hP hD hS hl))
theorem j_lcmp_ne (B : JB x cc own fr lo mc ms nL) {a b off : Int} {tgt : Nat} (d0 : decode cc pc = .ok (.lcmp, 1)) (d : decode cc (pc + 1) = .ok (.ifCond .ne off, 3)) (ht : ((pc + 1 : Nat) : Int) + off = (tgt : Int)) (ha : inL a) (hb : inL b) (kt : ¬ a = b → JW x ck sk tgt lv st ws) (kf : a = b → JW x ck sk (pc + 4) lv st ws) : JW x ck sk pc lv (.long (lI b) :: .long (lI a) :: st) ws := fun H locs ls hP hD hS hl => W.lcmp B.1 B.2.1 d0 (lv_if_ne B.1 B.2.1 d ht (fun h => kt (fun q => h ((lg_cmp_eq _ _).mpr ((lI_eq ha hb).mpr q))) H locs ls hP hD hS hl) (fun h => kf ((lI_eq ha hb).mp ((lg_cmp_eq _ _).mp h)) H locs ls hP hD hS hl))
theorem j_lcmp_lt (B : JB x cc own fr lo mc ms nL) {a b off : Int} {tgt : Nat} (d0 : decode cc pc = .ok (.lcmp, 1)) (d : decode cc (pc + 1) = .ok (.ifCond .lt off, 3)) (ht : ((pc + 1 : Nat) : Int) + off = (tgt : Int)) (ha : inL a) (hb : inL b) (kt : a < b → JW x ck sk tgt lv st ws) (kf : ¬ a < b → JW x ck sk (pc + 4) lv st ws) : JW x ck sk pc lv (.long (lI b) :: .long (lI a) :: st) ws := fun H locs ls hP hD hS hl => W.lcmp B.1 B.2.1 d0 (lv_if_lt B.1 B.2.1 d ht (fun h => kt ((lI_lt ha hb).mp ((lg_cmp_lt _ _).mp h)) H locs ls hP hD hS hl) (fun h => kf (fun q => h ((lg_cmp_lt _ _).mpr ((lI_lt ha hb).mpr q))) H locs ls hP hD hS hl))
theorem j_lcmp_ge (B : JB x cc own fr lo mc ms nL) {a b off : Int} {tgt : Nat} (d0 : decode cc pc = .ok (.lcmp, 1)) (d : decode cc (pc + 1) = .ok (.ifCond .ge off, 3)) (ht : ((pc + 1 : Nat) : Int) + off = (tgt : Int)) (ha : inL a) (hb : inL b) (kt : b ≤ a → JW x ck sk tgt lv st ws) (kf : ¬ b ≤ a → JW x ck sk (pc + 4) lv st ws) : JW x ck sk pc lv (.long (lI b) :: .long (lI a) :: st) ws := fun H locs ls hP hD hS hl => W.lcmp B.1 B.2.1 d0 (lv_if_ge B.1 B.2.1 d ht (fun h => kt ((lI_le hb ha).mp ((lg_cmp_ge _ _).mp h)) H locs ls hP hD hS hl) (fun h => kf (fun q => h ((lg_cmp_ge _ _).mpr ((lI_le hb ha).mpr q))) H locs ls hP hD hS hl))
theorem j_lcmp_gt (B : JB x cc own fr lo mc ms nL) {a b off : Int} {tgt : Nat} (d0 : decode cc pc = .ok (.lcmp, 1)) (d : decode cc (pc + 1) = .ok (.ifCond .gt off, 3)) (ht : ((pc + 1 : Nat) : Int) + off = (tgt : Int)) (ha : inL a) (hb : inL b) (kt : b < a → JW x ck sk tgt lv st ws) (kf : ¬ b < a → JW x ck sk (pc + 4) lv st ws) : JW x ck sk pc lv (.long (lI b) :: .long (lI a) :: st) ws := fun H locs ls hP hD hS hl => W.lcmp B.1 B.2.1 d0 (lv_if_gt B.1 B.2.1 d ht (fun h => kt ((lI_lt hb ha).mp ((lg_cmp_gt _ _).mp h)) H locs ls hP hD hS hl) (fun h => kf (fun q => h ((lg_cmp_gt _ _).mpr ((lI_lt hb ha).mpr q))) H locs ls hP hD hS hl))
theorem j_lcmp_le (B : JB x cc own fr lo mc ms nL) {a b off : Int} {tgt : Nat} (d0 : decode cc pc = .ok (.lcmp, 1)) (d : decode cc (pc + 1) = .ok (.ifCond .le off, 3)) (ht : ((pc + 1 : Nat) : Int) + off = (tgt : Int)) (ha : inL a) (hb : inL b) (kt : a ≤ b → JW x ck sk tgt lv st ws) (kf : ¬ a ≤ b → JW x ck sk (pc + 4) lv st ws) : JW x ck sk pc lv (.long (lI b) :: .long (lI a) :: st) ws := fun H locs ls hP hD hS hl => W.lcmp B.1 B.2.1 d0 (lv_if_le B.1 B.2.1 d ht (fun h => kt ((lI_le ha hb).mp ((lg_cmp_le _ _).mp h)) H locs ls hP hD hS hl) (fun h => kf (fun q => h ((lg_cmp_le _ _).mpr ((lI_le ha hb).mpr q))) H locs ls hP hD hS hl))
/-! renaming, ordering -/
theorem j_topi {a : Int} (b : Int) (h : a = b) (k : JW x ck sk pc lv (.int (iI b) :: st) ws) : JW x ck sk pc lv (.int (iI a) :: st) ws := by rw [h]; exact k
theorem j_topl {a : Int} (b : Int) (h : a = b) (k : JW x ck sk pc lv (.long (lI b) :: st) ws) : JW x ck sk pc lv (.long (lI a) :: st) ws := by rw [h]; exact k
theorem j_geni {a : Int} (k : ∀ z : Int, z = a → JW x ck sk pc lv (.int (iI z) :: st) ws) : JW x ck sk pc lv (.int (iI a) :: st) ws := k a rfl
theorem j_genl {a : Int} (k : ∀ z : Int, z = a → JW x ck sk pc lv (.long (lI z) :: st) ws) : JW x ck sk pc lv (.long (lI a) :: st) ws := k a rfl
theorem j_norm {lv' : List (Nat × Value)} {st' : List Value} {ws' : va_W} (ks is : List Nat) (hl' : lv_pick lv ks = lv') (hst : st = st') (hn : va_nd is = true) (hw : is.map (fun i => ws[i]?) = ws'.map some) (k : JW x ck sk pc lv' st' ws') : JW x ck sk pc lv st ws := by
  subst hst
  intro H locs ls hP hD hS hl
  have hP' : va_P x.g.1 vwCl ws' H := by
    refine hP.sub is ?_
    have h1 : (is.map (fun i => ws[i]?)).filterMap id = (ws'.map some).filterMap id := by rw [hw]
    rw [List.filterMap_map, List.filterMap_map] at h1
    simpa using h1
  exact k H locs ls hP' (hD.sub is hn hw) hS (lv_sub hl ks hl')
theorem j_world {ws' : va_W} (e : ws = ws') (k : JW x ck sk pc lv st ws') : JW x ck sk pc lv st ws := by rw [e]; exact k
theorem j_widen {ck' sk' : Nat} (h1 : ck ≤ ck') (h2 : sk ≤ sk') (k : JW x ck' sk' pc lv st ws) : JW x ck sk pc lv st ws := fun H locs ls hP hD hS hl => W.widen h1 h2 (k H locs ls hP hD hS hl)
/-! fields -/
/-- a field k of class ci (C, T, N) as 'own' reaches it at the pool's entry i -/
def FL (own : String) (i : Nat) (C : String) (T : u_T) (N ci k : Nat) : Prop := Cond.fieldLink own i (T k).1 (T k).2.1 (T k).2.2.1 ∈ TB ∧ (∀ w ∈ u_ws C T N, w ∈ TB) ∧ vwCl[ci]? = some (C, T, N) ∧ k < N
theorem j_get (B : JB x cc own fr lo mc ms nL) {i N ci k a : Nat} {C : String} {T : u_T} (f : FL own i C T N ci k) {fs : List Value} {v : Value} (d : decode cc pc = .ok (.getfield i, 3)) (q : Nat) (he : ws[q]? = some (a, .inr (ci, fs))) (hv : fs[k]? = some v) (kk : JW x ck sk (pc + 3) lv (v :: st) ws) : JW x ck sk pc lv (.ref a :: st) ws :=
  fun H locs ls hP hD hS hl => va_get B.1 B.2.1 B.2.2.2.2.1 f.2.1 B.2.2.2.1 B.2.2.2.2.2.1 hP q he f.2.2.1 k f.2.2.2 (B.2.2.2.2.1 _ f.1) (fun _ h9 => h9) hv d (kk H locs ls hP hD hS hl)
def FW (T : u_T) (N k : Nat) (ty : FieldType) : Prop := (∃ ty0 : Nat → FieldType, ∀ k, k < N → parseFieldDescriptor (T k).2.2.1 = some (ty0 k)) ∧ (∀ a, a < N → ∀ b, b < N → a ≠ b → (T a).2.1 ≠ (T b).2.1) ∧ parseFieldDescriptor (T k).2.2.1 = some ty
theorem j_put (B : JB x cc own fr lo mc ms nL) {i N ci k a : Nat} {C : String} {T : u_T} {ty : FieldType} (f : FL own i C T N ci k) (w : FW T N k ty) (hfin : (T k).2.2.2 = false) {fs : List Value} {v : Value} {ws' : va_W} (d : decode cc pc = .ok (.putfield i, 3)) (q : Nat) (he : ws[q]? = some (a, .inr (ci, fs))) (hn : narrow ty v = v) (hf : fits ty v = true) (hk : k < fs.length) (hw : ws.set q (a, .inr (ci, fs.set k v)) = ws') (kk : JW x ck sk (pc + 3) lv st ws') : JW x ck sk pc lv (v :: .ref a :: st) ws := by
  intro H locs ls hP hD hS hl
  obtain ⟨ty0, hty⟩ := w.1
  refine va_put B.1 B.2.1 B.2.2.2.2.1 f.2.1 ty0 hty w.2.1 B.2.2.2.1 B.2.2.2.2.2.1 hP hD hS q he f.2.2.1 k f.2.2.2 (B.2.2.2.2.1 _ f.1) (fun _ h9 => h9) hfin w.2.2 hn hf hk d (fun H1 locs1 hP1 hD1 hS1 => ?_)
  rw [hw] at hP1 hD1
  exact kk H1 locs1 ls hP1 hD1 hS1 hl
theorem j_putF (B : JB x cc own fr lo mc ms nL) {i N ci k a : Nat} {C : String} {T : u_T} {ty : FieldType} (f : FL own i C T N ci k) (w : FW T N k ty) (hfin : (T k).2.2.2 = true) (hin : x.meth.name = "<init>") (hdecl : (T k).1 = own) {fs : List Value} {v : Value} {ws' : va_W} (d : decode cc pc = .ok (.putfield i, 3)) (q : Nat) (he : ws[q]? = some (a, .inr (ci, fs))) (hn : narrow ty v = v) (hf : fits ty v = true) (hk : k < fs.length) (hw : ws.set q (a, .inr (ci, fs.set k v)) = ws') (kk : JW x ck sk (pc + 3) lv st ws') : JW x ck sk pc lv (v :: .ref a :: st) ws := by
  intro H locs ls hP hD hS hl
  obtain ⟨ty0, hty⟩ := w.1
  refine va_putF B.1 B.2.1 B.2.2.2.2.1 f.2.1 ty0 hty w.2.1 B.2.2.2.1 B.2.2.2.2.2.1 hP hD hS q he f.2.2.1 k f.2.2.2 (B.2.2.2.2.1 _ f.1) (fun _ h9 => h9) hfin hin hdecl w.2.2 hn hf hk d (fun H1 locs1 hP1 hD1 hS1 => ?_)
  rw [hw] at hP1 hD1
  exact kk H1 locs1 ls hP1 hD1 hS1 hl
/-! arrays: their contents as functions of the index -/
abbrev aI (g : GG) (n : Nat) (f : Int → Int) : va_E := .inl (g.2.1 0, n, .inl (fun j : Nat => iI (f (j : Int))))
abbrev aL (g : GG) (n : Nat) (f : Int → Int) : va_E := .inl (g.2.1 1, n, .inr (.inl (fun j : Nat => lI (f (j : Int)))))
abbrev aG (g : GG) (n : Nat) (f : Nat → Option Nat) : va_E := .inl (g.2.1 2, n, .inr (.inr (.inr (.inr f))))
abbrev aF (g : GG) (n : Nat) (f : Nat → Option Nat) : va_E := .inl (g.2.1 3, n, .inr (.inr (.inr (.inr f))))
def zup (f : Int → Int) (i v : Int) : Int → Int := fun j => if j = i then v else f j
theorem zup_s (f : Int → Int) (i v : Int) : zup f i v i = v := if_pos rfl
theorem zup_n {f : Int → Int} {i v j : Int} (h : j ≠ i) : zup f i v j = f j := if_neg h
theorem zup_upd {f : Int → Int} {i v : Int} (h0 : 0 ≤ i) : upd (fun j : Nat => iI (f (j : Int))) i.toNat (iI v) = fun j : Nat => iI (zup f i v (j : Int)) := by
  funext j
  unfold upd zup
  by_cases h : j = i.toNat
  · rw [if_pos h, if_pos (by omega)]
  · rw [if_neg h, if_neg (by omega)]
theorem zup_updL {f : Int → Int} {i v : Int} (h0 : 0 ≤ i) : vp_updL (fun j : Nat => lI (f (j : Int))) i.toNat (lI v) = fun j : Nat => lI (zup f i v (j : Int)) := by
  funext j
  unfold vp_updL zup
  by_cases h : j = i.toNat
  · rw [if_pos h, if_pos (by omega)]
  · rw [if_neg h, if_neg (by omega)]
theorem j_iald (B : JB x cc own fr lo mc ms nL) {a n : Nat} {f : Int → Int} {i : Int} (d : decode cc pc = .ok (.iaload, 1)) (q : Nat) (he : ws[q]? = some (a, aI x.g n f)) (h : 0 ≤ i ∧ i < n) (hn : n < 2147483648) (kk : JW x ck sk (pc + 1) lv (.int (iI (f i)) :: st) ws) : JW x ck sk pc lv (.int (iI i) :: .ref a :: st) ws := by
  intro H locs ls hP hD hS hl
  refine va_iald B.1 B.2.1 B.2.2.2.2.2.1 hP q 0 he rfl (iI_in h.1 h.2 hn) d ?_
  rw [iI_clamp h.1 (by omega), Int.toNat_of_nonneg h.1]
  exact kk H locs ls hP hD hS hl
theorem j_lald (B : JB x cc own fr lo mc ms nL) {a n : Nat} {f : Int → Int} {i : Int} (d : decode cc pc = .ok (.laload, 1)) (q : Nat) (he : ws[q]? = some (a, aL x.g n f)) (h : 0 ≤ i ∧ i < n) (hn : n < 2147483648) (kk : JW x ck sk (pc + 1) lv (.long (lI (f i)) :: st) ws) : JW x ck sk pc lv (.int (iI i) :: .ref a :: st) ws := by
  intro H locs ls hP hD hS hl
  refine va_lald B.1 B.2.1 B.2.2.2.2.2.1 hP q 1 he rfl (iI_in h.1 h.2 hn) d ?_
  rw [iI_clamp h.1 (by omega), Int.toNat_of_nonneg h.1]
  exact kk H locs ls hP hD hS hl
theorem j_iast (B : JB x cc own fr lo mc ms nL) {a n : Nat} {f : Int → Int} {i v : Int} {ws' : va_W} (d : decode cc pc = .ok (.iastore, 1)) (q : Nat) (he : ws[q]? = some (a, aI x.g n f)) (h : 0 ≤ i ∧ i < n) (hn : n < 2147483648) (hw : ws.set q (a, aI x.g n (zup f i v)) = ws') (kk : JW x ck sk (pc + 1) lv st ws') : JW x ck sk pc lv (.int (iI v) :: .int (iI i) :: .ref a :: st) ws := by
  intro H locs ls hP hD hS hl
  refine va_iast B.1 B.2.1 B.2.2.2.2.2.1 hP hD hS q 0 he rfl (iI_in h.1 h.2 hn) d (fun H1 locs1 hP1 hD1 hS1 => ?_)
  rw [iI_clamp h.1 (by omega), zup_upd h.1, hw] at hP1 hD1
  exact kk H1 locs1 ls hP1 hD1 hS1 hl
theorem j_last (B : JB x cc own fr lo mc ms nL) {a n : Nat} {f : Int → Int} {i v : Int} {ws' : va_W} (d : decode cc pc = .ok (.lastore, 1)) (q : Nat) (he : ws[q]? = some (a, aL x.g n f)) (h : 0 ≤ i ∧ i < n) (hn : n < 2147483648) (hw : ws.set q (a, aL x.g n (zup f i v)) = ws') (kk : JW x ck sk (pc + 1) lv st ws') : JW x ck sk pc lv (.long (lI v) :: .int (iI i) :: .ref a :: st) ws := by
  intro H locs ls hP hD hS hl
  refine va_last B.1 B.2.1 B.2.2.2.2.2.1 hP hD hS q 1 he rfl (iI_in h.1 h.2 hn) d (fun H1 locs1 hP1 hD1 hS1 => ?_)
  rw [iI_clamp h.1 (by omega), zup_updL h.1, hw] at hP1 hD1
  exact kk H1 locs1 ls hP1 hD1 hS1 hl
theorem j_alen (B : JB x cc own fr lo mc ms nL) {a : Nat} {t0 : Nat} {ty : FieldType} {cA : ClassId} {y : vp_A} (d : decode cc pc = .ok (.arraylength, 1)) (q : Nat) (he : ws[q]? = some (a, .inl (cA, y))) (ht : (gT x.g)[t0]? = some (cA, ty)) (kk : JW x ck sk (pc + 1) lv (.int (iI (y.1 : Int)) :: st) ws) : JW x ck sk pc lv (.ref a :: st) ws := by
  intro H locs ls hP hD hS hl
  refine va_alen (v := iI (y.1 : Int)) B.1 B.2.1 B.2.2.2.2.2.1 hP q t0 he ht (iI_nat _).symm d (kk H locs ls hP hD hS hl)
theorem j_aaldF (B : JB x cc own fr lo mc ms nL) {a n b : Nat} {f : Nat → Option Nat} {i : Int} (d : decode cc pc = .ok (.aaload, 1)) (q : Nat) (he : ws[q]? = some (a, aF x.g n f)) (h : 0 ≤ i ∧ i < n) (hn : n < 2147483648) (hv : f i.toNat = some b) (kk : JW x ck sk (pc + 1) lv (.ref b :: st) ws) : JW x ck sk pc lv (.int (iI i) :: .ref a :: st) ws := by
  intro H locs ls hP hD hS hl
  refine va_aldq (C := "SamplePacks$RowForm") B.1 B.2.1 B.2.2.2.2.2.1 hP q 3 he rfl (iI_in h.1 h.2 hn) d ?_
  rw [iI_clamp h.1 (by omega), hv]
  exact kk H locs ls hP hD hS hl
theorem j_aaldG (B : JB x cc own fr lo mc ms nL) {a n b : Nat} {f : Nat → Option Nat} {i : Int} (d : decode cc pc = .ok (.aaload, 1)) (q : Nat) (he : ws[q]? = some (a, aG x.g n f)) (h : 0 ≤ i ∧ i < n) (hn : n < 2147483648) (hv : f i.toNat = some b) (kk : JW x ck sk (pc + 1) lv (.ref b :: st) ws) : JW x ck sk pc lv (.int (iI i) :: .ref a :: st) ws := by
  intro H locs ls hP hD hS hl
  have hin := iI_in h.1 h.2 hn
  have hlt : (iI i).toNatClampNeg < n := Nat.not_le.mp fun q => hin (Or.inr q)
  refine W.aald (v := va_rf (f (iI i).toNatClampNeg)) (ty := .array .int) B.1 B.2.1 (hP q _ he) ((B.2.2.2.2.2.1.2 2 _ rfl).1 n (fun j => va_rf (f j))) rfl (fun q => by cases q) (by show ¬ (iI i < 0 ∨ (arrV _ _ _).slots.size ≤ _); rw [arrV_size]; exact hin) (by show (arrV _ _ _).slots[_]? = _; rw [arrV_read _ _ hlt]) rfl rfl d ?_
  rw [iI_clamp h.1 (by omega), hv]
  exact kk H locs ls hP hD hS hl
/-! ends -/
theorem j_iret (B : JB x cc own fr lo mc ms nL) {w0 : va_W} {Post : Option Value → va_W → Prop} {v : Int32} (J : JR x (some .int) ck sk w0 Post) (d : decode cc pc = .ok (.ireturn, 1)) (hp : Post (some (.int v)) ws) : JW x ck sk pc lv [.int v] ws := by
  intro H locs ls hP hD hS hl
  obtain ⟨hr, hlk, hA, hQ⟩ := J
  rw [hQ]
  rw [hA] at hD hS ⊢
  exact W.iret B.1 B.2.1 hr (fun t ht hW => ⟨⟨_, ws, rfl, hp, by rw [ht]; exact hP, hD⟩, hS.F ht⟩) hS.2.2 d hlk
theorem j_zret (B : JB x cc own fr lo mc ms nL) {w0 : va_W} {Post : Option Value → va_W → Prop} {v : Int32} (J : JR x (some .boolean) ck sk w0 Post) (d : decode cc pc = .ok (.ireturn, 1)) (hv : narrow .boolean (.int v) = .int v) (hp : Post (some (.int v)) ws) : JW x ck sk pc lv [.int v] ws := by
  intro H locs ls hP hD hS hl
  obtain ⟨hr, hlk, hA, hQ⟩ := J
  rw [hQ]
  rw [hA] at hD hS ⊢
  exact W.zret B.1 B.2.1 hr hv (fun t ht hW => ⟨⟨_, ws, rfl, hp, by rw [ht]; exact hP, hD⟩, hS.F ht⟩) hS.2.2 d hlk
theorem j_lret (B : JB x cc own fr lo mc ms nL) {w0 : va_W} {Post : Option Value → va_W → Prop} {v : Int64} (J : JR x (some .long) ck sk w0 Post) (d : decode cc pc = .ok (.lreturn, 1)) (hp : Post (some (.long v)) ws) : JW x ck sk pc lv [.long v] ws := by
  intro H locs ls hP hD hS hl
  obtain ⟨hr, hlk, hA, hQ⟩ := J
  rw [hQ]
  rw [hA] at hD hS ⊢
  exact W.lret B.1 B.2.1 hr (fun t ht hW => ⟨⟨_, ws, rfl, hp, by rw [ht]; exact hP, hD⟩, hS.F ht⟩) hS.2.2 d hlk
theorem j_vret (B : JB x cc own fr lo mc ms nL) {w0 : va_W} {Post : Option Value → va_W → Prop} (J : JR x none ck sk w0 Post) (d : decode cc pc = .ok (.return_, 1)) (hp : Post none ws) : JW x ck sk pc lv [] ws := by
  intro H locs ls hP hD hS hl
  obtain ⟨hr, hlk, hA, hQ⟩ := J
  rw [hQ]
  rw [hA] at hD hS ⊢
  exact W.vret B.1 B.2.1 hr (fun t ht hW => ⟨⟨_, ws, rfl, hp, by rw [ht]; exact hP, hD⟩, hS.F ht⟩) hS.2.2 d hlk
theorem j_aret (B : JB x cc own fr lo mc ms nL) {w0 : va_W} {Post : Option Value → va_W → Prop} {C : String} {a : Nat} (J : JR x (some (.object C)) ck sk w0 Post) (d : decode cc pc = .ok (.areturn, 1)) (hp : Post (some (.ref a)) ws) : JW x ck sk pc lv [.ref a] ws := by
  intro H locs ls hP hD hS hl
  obtain ⟨hr, hlk, hA, hQ⟩ := J
  rw [hQ]
  rw [hA] at hD hS ⊢
  exact W.aret B.1 B.2.1 hr (Or.inl ⟨_, rfl⟩) (Or.inr ⟨_, rfl⟩) (fun t ht hW => ⟨⟨_, ws, rfl, hp, by rw [ht]; exact hP, hD⟩, hS.F ht⟩) hS.2.2 d hlk
/-! static arrays -/
theorem nest_use {U : State} {args : Array Value} {w : Cond} (h : gN U) (hw : w ∈ NL) : w.before args U = true := by
  have h1 := h w hw
  have h2 : isNest w = true := (List.mem_filter.mp hw).2
  cases w <;> first | exact va_Nw.use rfl h1 | cases h2
theorem j_gets (B : JB x cc own fr lo mc ms nL) {i : Nat} {C n d' : String} {v : Value} (hZ : va_Z C n d' v x.A x.s x.s.heap) (w : Cond.fieldLink own i C n d' ∈ TB) (d : decode cc pc = .ok (.getstatic i, 3)) (kk : JW x ck sk (pc + 3) lv (v :: st) ws) : JW x ck sk pc lv st ws :=
  fun H locs ls hP hD hS hl => va_gets B.1 B.2.1 hZ hS B.2.2.2.1 (B.2.2.2.2.1 _ w) (fun _ h => h) d (kk H locs ls hP hD hS hl)
theorem j_getsN (B : JB x cc own fr lo mc ms nL) {i : Nat} {C n d' host : String} {v : Value} (hZ : va_Z C n d' v x.A x.s x.s.heap) (w : Cond.fieldLinkNest own i C n d' host ∈ NL) (d : decode cc pc = .ok (.getstatic i, 3)) (kk : JW x ck sk (pc + 3) lv (v :: st) ws) : JW x ck sk pc lv st ws := by
  intro H locs ls hP hD hS hl
  refine va_getsN B.1 B.2.1 hZ hS B.2.2.2.1 (nest_use B.2.2.2.2.2.2.1 w) (fun _ h => h) d (kk H locs ls hP hD hS hl)
theorem j_tald (B : JB x cc own fr lo mc ms nL) {t N : Nat} {f : Nat → Int} {i : Int} (hT : va_T .int t N (fun k => .int (iI (f k))) x.A x.s x.s.heap) (h : 0 ≤ i ∧ i < N) (hN : N < 2147483648) (d : decode cc pc = .ok (.iaload, 1)) (kk : JW x ck sk (pc + 1) lv (.int (iI (f i.toNat)) :: st) ws) : JW x ck sk pc lv (.int (iI i) :: .ref t :: st) ws := by
  intro H locs ls hP hD hS hl
  refine va_ti B.1 B.2.1 hT hS (iI_in h.1 h.2 hN) (v := .int (iI (f i.toNat))) ?_ d (kk H locs ls hP hD hS hl)
  show Value.int (iI (f (iI i).toNatClampNeg)) = _
  rw [iI_clamp h.1 (by omega)]
/-! calls -/
/-- what the tables say of a callee -/
def CY (y : MethodName) (bytes : ByteArray) (maxL : Nat) (ret : Option FieldType) (n : Nat) : Prop := Cond.code y bytes maxL ret ∈ TB ∧ Cond.initialized y.cls ∈ TB ∧ (y.cls ≠ "java/lang/invoke/MethodHandle" ∧ y.cls ≠ "java/lang/invoke/VarHandle" ∧ (parseMethodDescriptor y.desc).map (fun d => d.parameters.length) = some n)
theorem TB_good {y : MethodName} {bytes : ByteArray} {maxL n : Nat} {ret : Option FieldType} (h : CY y bytes maxL ret n) : GoodIn TB (Cond.code y bytes maxL ret :: TB) := by
  intro w hw
  have hm : w ∈ TB := (List.mem_cons.mp hw).elim (fun e => by rw [e]; exact h.1) id
  exact ⟨hm, good_of_word (List.mem_filter.mp hm).2⟩
/-- behind a call: the frame rule, on the layer's own forms -/
theorem j_after {g : JFrame} {y : MethodName} {bytes : ByteArray} {maxL : Nat} {ret : Option FieldType} {wc wr : va_W} {Post : Option Value → va_W → Prop} {mc' ms' : Nat} {H : Heap} {locs : List Loc} {ls : Array Slot} {rest st0 : List Value} {a : Array Value} (B : JB x cc own fr lo mc ms nL)
    (hP : va_P x.g.1 vwCl ws H) (hD : va_D x.A ws) (hS : va_S x.A x.s.heap H locs) (hl : lv_has ls x.nL lv) (isC isR : List Nat) (hC : isC.map (fun i => ws[i]?) = wc.map some) (hR : isR.map (fun i => ws[i]?) = wr.map some) (hn : va_nd isR = true) (hdis : ∀ i ∈ isR, i ∉ isC)
    (hr : va_Run x.p x.l x.e x.R x.s x.m x.args x.below x.meth x.c H locs ck sk mc' ms' (F0 x.m pc ls st0) rest (cQ x.g wc H.size Post a) (va_A wc H.size))
    (kk : ∀ (v : Option Value) (w1 : va_W), Post v w1 → JW x (ck + mc') (sk + ms') (pc + 3) lv (v.toList ++ rest) (wr ++ w1)) : W x.p x.l x.e x.R x.s x.m x.args x.below x.meth x.c H locs ck sk x.Q (F0 x.m pc ls st0) := by
  have hFc : ∀ q, va_A wc H.size q → x.A q := va_free hD hS B.2.2.2.2.2.2.2.2.1 isC hC
  intro T hT X
  obtain ⟨v, st₀, t, T', L, h0, X', hL, e1, e2, ⟨⟨v', w1, hv, hp, hP1, hD1⟩, hz, hk⟩, stp⟩ := hr T hT X
  cases hv
  rw [h0] at hz hk
  rw [← e1] at hP1 hz hk
  obtain ⟨hPj, hDj⟩ := va_join hP hD isC isR hC hR hn hdis hk hFc hP1 hD1
  have hS1 : va_S x.A x.s.heap T'.heap (locs ++ L) := ⟨Nat.le_trans hS.1 hz, fun q h1 h2 => by rw [hk q (Nat.lt_of_lt_of_le h1 hS.1) (fun z => h2 (hFc q z))]; exact hS.2.1 q h1 h2, fun q hq => by
    rcases List.mem_append.mp hq with h | h
    · exact hS.2.2 q h
    · exact hFc _ (hL q h)⟩
  obtain ⟨t2, a1, b1⟩ := kk v w1 hp T'.heap (locs ++ L) ls hPj hDj hS1 hl T' rfl X'
  exact ⟨t2, stp t2 a1, b1⟩
theorem cP_at {av : List Value} {wc : va_W} {H : Heap} {locs : List Loc} (B : JB x cc own fr lo mc ms nL) (hP : va_P x.g.1 vwCl ws H) (hD : va_D x.A ws) (hS : va_S x.A x.s.heap H locs) (isC : List Nat) (hnC : va_nd isC = true) (hC : isC.map (fun i => ws[i]?) = wc.map some) :
    ∀ U : State, U.heap = H → x.s.WarmedH U.vm → cP x.g av wc H.size av.toArray U := by
  intro U hU hW
  have hFc : ∀ q, va_A wc H.size q → x.A q := va_free hD hS B.2.2.2.2.2.2.2.2.1 isC hC
  refine ⟨rfl, by rw [hU], ?_, va_K.moved hW.alike B.2.2.2.2.2.1, (hD.sub isC hnC hC).weaken (fun _ _ _ _ => trivial), gN.warm hW B.2.2.2.2.2.2.1, ?_⟩
  · rw [hU]
    refine hP.sub isC ?_
    have h1 : (isC.map (fun i => ws[i]?)).filterMap id = (wc.map some).filterMap id := by rw [hC]
    rw [List.filterMap_map, List.filterMap_map] at h1
    simpa using h1
  · rw [hU]
    have h1 : gS x.g x.A x.s H := B.2.2.2.2.2.2.2.1.kept (fun a h h2 => hS.2.1 a h h2)
    exact (h1.moved hW.alike).narrow hFc
theorem j_callV (B : JB x cc own fr lo mc ms nL) {i : Nat} {y : MethodName} {bytes : ByteArray} {maxL n : Nat} {ret : Option FieldType} {fr' lo' mc' ms' : Nat} {b : Nat} {As rest : List Value} {wc wr : va_W} {Post : Option Value → va_W → Prop} (hy : CY y bytes maxL ret n) (hin : Cond.instanceMethod y ∈ TB) (hse : Cond.selects y.cls y y ∈ TB) (hl0 : Cond.methodLink own i y ∈ TB)
    (hM : Ctr x.l x.g y bytes maxL ret fr' lo' mc' ms' (.ref b :: As) wc Post) (qb ci : Nat) {q : vw_C} {fs : List Value} (hcq : vwCl[ci]? = some q) (hcy : q.1 = y.cls) (hbe : ws[qb]? = some (b, .inr (ci, fs)))
    (isC isR : List Nat) (hnC : va_nd isC = true) (hC : isC.map (fun i => ws[i]?) = wc.map some) (hR : isR.map (fun i => ws[i]?) = wr.map some) (hn : va_nd isR = true) (hdis : ∀ i ∈ isR, i ∉ isC)
    (hst : st = As.reverse ++ .ref b :: rest) (hlen : As.length = n) (hrm : (rest.map fun v => v.category).sum ≤ 8) (hroom : fr' + 1 ≤ fr ∧ 8 + (maxL + 11) + lo' ≤ lo ∧ ck + mc' ≤ mc ∧ sk + ms' ≤ ms) (d : decode cc pc = .ok (.invokevirtual i, 3))
    (kk : ∀ (v : Option Value) (w1 : va_W), Post v w1 → JW x (ck + mc') (sk + ms') (pc + 3) lv (v.toList ++ rest) (wr ++ w1)) : JW x ck sk pc lv st ws := by
  intro H locs ls hP hD hS hl
  have ok : ∀ w ∈ TB, w.before x.args x.s = true := B.2.2.2.2.1
  obtain ⟨r1, r2, r3, r4⟩ := B.2.2.2.2.2.2.2.2.2.1
  refine j_after (y := y) (bytes := bytes) (maxL := maxL) (ret := ret) (g := F0 x.m pc ls st) (a := (Value.ref b :: As).toArray) B hP hD hS hl isC isR hC hR hn hdis ?_ kk
  have hrv := va_recv B.2.2.2.2.2.1 hP hcq hbe
  rw [hcy] at hrv
  exact va_runV (As := As) (rest := rest) (b := b) (C := y.cls) (Ts := TB) ⟨B.1, B.2.1, B.2.2.1.trans B.2.2.2.2.2.2.2.2.2.2.symm, B.2.2.2.1, ok⟩ (hM H.size)
    ⟨callB_of n ok (TB_good hy) rfl rfl rfl (ok _ hy.2.1) (ok _ hl0) hy.2.2 ⟨Nat.le_trans hroom.1 r1, Nat.le_trans hroom.2.1 r2⟩, ok _ hin, ok _ hse⟩
    ⟨cP_blind _ _ _ _, hrv, cP_at B hP hD hS isC hnC hC⟩ rfl hlen hl.1 hst (lv_room hrm) d ⟨Nat.le_trans hroom.2.2.1 r3, Nat.le_trans hroom.2.2.2 r4⟩
theorem j_callS (B : JB x cc own fr lo mc ms nL) {i : Nat} {y : MethodName} {bytes : ByteArray} {maxL n : Nat} {ret : Option FieldType} {fr' lo' mc' ms' : Nat} {As rest : List Value} {wc wr : va_W} {Post : Option Value → va_W → Prop} (hy : CY y bytes maxL ret n) (hse : Cond.static y ∈ TB) (hl0 : Cond.methodLink own i y ∈ TB)
    (hM : Ctr x.l x.g y bytes maxL ret fr' lo' mc' ms' As wc Post)
    (isC isR : List Nat) (hnC : va_nd isC = true) (hC : isC.map (fun i => ws[i]?) = wc.map some) (hR : isR.map (fun i => ws[i]?) = wr.map some) (hn : va_nd isR = true) (hdis : ∀ i ∈ isR, i ∉ isC)
    (hst : st = As.reverse ++ rest) (hlen : As.length = n) (hrm : (rest.map fun v => v.category).sum ≤ 8) (hroom : fr' + 1 ≤ fr ∧ 8 + (maxL + 11) + lo' ≤ lo ∧ ck + mc' ≤ mc ∧ sk + ms' ≤ ms) (d : decode cc pc = .ok (.invokestatic i, 3))
    (kk : ∀ (v : Option Value) (w1 : va_W), Post v w1 → JW x (ck + mc') (sk + ms') (pc + 3) lv (v.toList ++ rest) (wr ++ w1)) : JW x ck sk pc lv st ws := by
  intro H locs ls hP hD hS hl
  have ok : ∀ w ∈ TB, w.before x.args x.s = true := B.2.2.2.2.1
  obtain ⟨r1, r2, r3, r4⟩ := B.2.2.2.2.2.2.2.2.2.1
  refine j_after (y := y) (bytes := bytes) (maxL := maxL) (ret := ret) (g := F0 x.m pc ls st) (a := As.toArray) B hP hD hS hl isC isR hC hR hn hdis ?_ kk
  exact va_runS (As := As) (rest := rest) (Ts := TB) ⟨B.1, B.2.1, B.2.2.1.trans B.2.2.2.2.2.2.2.2.2.2.symm, B.2.2.2.1, ok⟩ (hM H.size)
    ⟨callB_of n ok (TB_good hy) rfl rfl rfl (ok _ hy.2.1) (ok _ hl0) hy.2.2 ⟨Nat.le_trans hroom.1 r1, Nat.le_trans hroom.2.1 r2⟩, ok _ hse⟩
    ⟨cP_blind _ _ _ _, cP_at B hP hD hS isC hnC hC⟩ rfl hlen hl.1 hst (lv_room hrm) d ⟨Nat.le_trans hroom.2.2.1 r3, Nat.le_trans hroom.2.2.2 r4⟩
theorem j_callI (B : JB x cc own fr lo mc ms nL) {i : Nat} {y : MethodName} {bytes : ByteArray} {maxL n : Nat} {fr' lo' mc' ms' : Nat} {b : Nat} {As rest : List Value} {wc wr : va_W} {Post : Option Value → va_W → Prop} (hy : CY y bytes maxL none n) (hin : Cond.instanceMethod y ∈ TB) (hy1 : y.name = "<init>") (hl0 : Cond.methodLink own i y ∈ TB)
    (hM : Ctr x.l x.g y bytes maxL none fr' lo' mc' ms' (.ref b :: As) wc Post)
    (isC isR : List Nat) (hnC : va_nd isC = true) (hC : isC.map (fun i => ws[i]?) = wc.map some) (hR : isR.map (fun i => ws[i]?) = wr.map some) (hn : va_nd isR = true) (hdis : ∀ i ∈ isR, i ∉ isC)
    (hst : st = As.reverse ++ .ref b :: rest) (hlen : As.length = n) (hrm : (rest.map fun v => v.category).sum ≤ 8) (hroom : fr' + 1 ≤ fr ∧ 8 + (maxL + 11) + lo' ≤ lo ∧ ck + mc' ≤ mc ∧ sk + ms' ≤ ms) (d : decode cc pc = .ok (.invokespecial i, 3))
    (kk : ∀ (v : Option Value) (w1 : va_W), Post v w1 → JW x (ck + mc') (sk + ms') (pc + 3) lv (v.toList ++ rest) (wr ++ w1)) : JW x ck sk pc lv st ws := by
  intro H locs ls hP hD hS hl
  have ok : ∀ w ∈ TB, w.before x.args x.s = true := B.2.2.2.2.1
  obtain ⟨r1, r2, r3, r4⟩ := B.2.2.2.2.2.2.2.2.2.1
  refine j_after (y := y) (bytes := bytes) (maxL := maxL) (ret := none) (g := F0 x.m pc ls st) (a := (Value.ref b :: As).toArray) B hP hD hS hl isC isR hC hR hn hdis ?_ kk
  exact va_runI (As := As) (rest := rest) (b := b) (Ts := TB) ⟨B.1, B.2.1, B.2.2.1.trans B.2.2.2.2.2.2.2.2.2.2.symm, B.2.2.2.1, ok⟩ (hM H.size)
    ⟨callB_of n ok (TB_good hy) rfl rfl rfl (ok _ hy.2.1) (ok _ hl0) hy.2.2 ⟨Nat.le_trans hroom.1 r1, Nat.le_trans hroom.2.1 r2⟩, hy1, ok _ hin⟩
    ⟨cP_blind _ _ _ _, cP_at B hP hD hS isC hnC hC⟩ rfl hlen hl.1 hst (lv_room hrm) d ⟨Nat.le_trans hroom.2.2.1 r3, Nat.le_trans hroom.2.2.2 r4⟩
theorem j_callSN (B : JB x cc own fr lo mc ms nL) {i : Nat} {host : String} {y : MethodName} {bytes : ByteArray} {maxL n : Nat} {ret : Option FieldType} {fr' lo' mc' ms' : Nat} {As rest : List Value} {wc wr : va_W} {Post : Option Value → va_W → Prop} (hy : CY y bytes maxL ret n) (hse : Cond.static y ∈ TB) (hl0 : Cond.methodLinkNest own i y host ∈ NL)
    (hM : Ctr x.l x.g y bytes maxL ret fr' lo' mc' ms' As wc Post)
    (isC isR : List Nat) (hnC : va_nd isC = true) (hC : isC.map (fun i => ws[i]?) = wc.map some) (hR : isR.map (fun i => ws[i]?) = wr.map some) (hn : va_nd isR = true) (hdis : ∀ i ∈ isR, i ∉ isC)
    (hst : st = As.reverse ++ rest) (hlen : As.length = n) (hrm : (rest.map fun v => v.category).sum ≤ 8) (hroom : fr' + 1 ≤ fr ∧ 8 + (maxL + 11) + lo' ≤ lo ∧ ck + mc' ≤ mc ∧ sk + ms' ≤ ms) (d : decode cc pc = .ok (.invokestatic i, 3))
    (kk : ∀ (v : Option Value) (w1 : va_W), Post v w1 → JW x (ck + mc') (sk + ms') (pc + 3) lv (v.toList ++ rest) (wr ++ w1)) : JW x ck sk pc lv st ws := by
  intro H locs ls hP hD hS hl
  have ok : ∀ w ∈ TB, w.before x.args x.s = true := B.2.2.2.2.1
  obtain ⟨r1, r2, r3, r4⟩ := B.2.2.2.2.2.2.2.2.2.1
  refine j_after (y := y) (bytes := bytes) (maxL := maxL) (ret := ret) (g := F0 x.m pc ls st) (a := As.toArray) B hP hD hS hl isC isR hC hR hn hdis ?_ kk
  exact va_runSN (As := As) (rest := rest) (Ts := TB) ⟨B.1, B.2.1, B.2.2.1.trans B.2.2.2.2.2.2.2.2.2.2.symm, B.2.2.2.1, ok⟩ (hM H.size)
    ⟨va_cnB n ok (TB_good hy) rfl rfl rfl (B.2.2.2.2.2.2.1 _ hl0) (ok _ hy.2.1) hy.2.2 ⟨Nat.le_trans hroom.1 r1, Nat.le_trans hroom.2.1 r2⟩, ok _ hse, trivial⟩
    ⟨cP_blind _ _ _ _, cP_at B hP hD hS isC hnC hC⟩ rfl hlen hl.1 hst (lv_room hrm) d ⟨Nat.le_trans hroom.2.2.1 r3, Nat.le_trans hroom.2.2.2 r4⟩
theorem j_callIN (B : JB x cc own fr lo mc ms nL) {i : Nat} {host : String} {y : MethodName} {bytes : ByteArray} {maxL n : Nat} {fr' lo' mc' ms' : Nat} {b : Nat} {As rest : List Value} {wc wr : va_W} {Post : Option Value → va_W → Prop} (hy : CY y bytes maxL none n) (hin : Cond.instanceMethod y ∈ TB) (hy1 : y.name = "<init>") (hl0 : Cond.methodLinkNest own i y host ∈ NL)
    (hM : Ctr x.l x.g y bytes maxL none fr' lo' mc' ms' (.ref b :: As) wc Post)
    (isC isR : List Nat) (hnC : va_nd isC = true) (hC : isC.map (fun i => ws[i]?) = wc.map some) (hR : isR.map (fun i => ws[i]?) = wr.map some) (hn : va_nd isR = true) (hdis : ∀ i ∈ isR, i ∉ isC)
    (hst : st = As.reverse ++ .ref b :: rest) (hlen : As.length = n) (hrm : (rest.map fun v => v.category).sum ≤ 8) (hroom : fr' + 1 ≤ fr ∧ 8 + (maxL + 11) + lo' ≤ lo ∧ ck + mc' ≤ mc ∧ sk + ms' ≤ ms) (d : decode cc pc = .ok (.invokespecial i, 3))
    (kk : ∀ (v : Option Value) (w1 : va_W), Post v w1 → JW x (ck + mc') (sk + ms') (pc + 3) lv (v.toList ++ rest) (wr ++ w1)) : JW x ck sk pc lv st ws := by
  intro H locs ls hP hD hS hl
  have ok : ∀ w ∈ TB, w.before x.args x.s = true := B.2.2.2.2.1
  obtain ⟨r1, r2, r3, r4⟩ := B.2.2.2.2.2.2.2.2.2.1
  refine j_after (y := y) (bytes := bytes) (maxL := maxL) (ret := none) (g := F0 x.m pc ls st) (a := (Value.ref b :: As).toArray) B hP hD hS hl isC isR hC hR hn hdis ?_ kk
  exact va_runIN (As := As) (rest := rest) (b := b) (Ts := TB) ⟨B.1, B.2.1, B.2.2.1.trans B.2.2.2.2.2.2.2.2.2.2.symm, B.2.2.2.1, ok⟩ (hM H.size)
    ⟨va_cnB n ok (TB_good hy) rfl rfl rfl (B.2.2.2.2.2.2.1 _ hl0) (ok _ hy.2.1) hy.2.2 ⟨Nat.le_trans hroom.1 r1, Nat.le_trans hroom.2.1 r2⟩, hy1, ok _ hin⟩
    ⟨cP_blind _ _ _ _, cP_at B hP hD hS isC hnC hC⟩ rfl hlen hl.1 hst (lv_room hrm) d ⟨Nat.le_trans hroom.2.2.1 r3, Nat.le_trans hroom.2.2.2 r4⟩
theorem j_min (B : JB x cc own fr lo mc ms nL) {i : Nat} {a b : Int} (hl0 : Cond.methodLink own i Lib.Math.min.name ∈ TB) (hst : Cond.static Lib.Math.min.name ∈ TB) (hini : Cond.initialized "java/lang/Math" ∈ TB) (hc : Cond.code Lib.Math.min.name Lib.Math.min.code 2 (some .int) ∈ TB) (ha : inR a) (hb : inR b) (hroom : 1 ≤ fr ∧ (st.map fun v => v.category).sum + 13 ≤ lo ∧ ck ≤ mc ∧ sk ≤ ms) (d : decode cc pc = .ok (.invokestatic i, 3)) (kk : JW x ck sk (pc + 3) lv (.int (iI (if b < a then b else a)) :: st) ws) : JW x ck sk pc lv (.int (iI b) :: .int (iI a) :: st) ws := by
  intro H locs ls hP hD hS hl
  have ok : ∀ w ∈ TB, w.before x.args x.s = true := B.2.2.2.2.1
  obtain ⟨r1, r2, r3, r4⟩ := B.2.2.2.2.2.2.2.2.2.1
  refine va_mmin B.1 B.2.1 (B.2.2.1.trans (B.2.2.2.2.2.2.2.2.2.2.symm.trans hl.1.symm)) B.2.2.2.1 (ok _ hl0) (ok _ hst) (ok _ hini) (ok _ hc) (Nat.le_trans hroom.1 r1) (Nat.le_trans hroom.2.1 r2) (Nat.le_trans hroom.2.2.1 r3) (Nat.le_trans hroom.2.2.2 r4) d ?_
  have e : (if iI b < iI a then iI b else iI a) = iI (if b < a then b else a) := by
    by_cases h : b < a
    · rw [if_pos h, if_pos ((iI_lt hb ha).mpr h)]
    · rw [if_neg h, if_neg (fun q => h ((iI_lt hb ha).mp q))]
  rw [e]
  exact kk H locs ls hP hD hS hl
/-- System.arraycopy of ints -/
def zcpy (f h : Int → Int) (sp dp n : Int) : Int → Int := fun j => if dp ≤ j ∧ j < dp + n then f (sp + (j - dp)) else h j
theorem zcpy_of {f h : Int → Int} {sp dp n : Int} (h1 : 0 ≤ sp) (h2 : 0 ≤ dp) (h3 : 0 ≤ n) : va_cpy (fun j : Nat => iI (f (j : Int))) (fun j : Nat => iI (h (j : Int))) sp.toNat dp.toNat n.toNat = fun j : Nat => iI (zcpy f h sp dp n (j : Int)) := by
  funext j
  unfold va_cpy zcpy
  by_cases c : dp ≤ (j : Int) ∧ (j : Int) < dp + n
  · rw [if_pos (by omega), if_pos c]
    have e : ((sp.toNat + (j - dp.toNat) : Nat) : Int) = sp + ((j : Int) - dp) := by omega
    show iI (f ((sp.toNat + (j - dp.toNat) : Nat) : Int)) = _
    rw [e]
  · rw [if_neg (by omega), if_neg c]
theorem j_copy (B : JB x cc own fr lo mc ms nL) {i : Nat} {a0 a1 n0 n1 : Nat} {f h : Int → Int} {sp dp n : Int} {ws' : va_W} (hl0 : Cond.methodLink own i arraycopyName ∈ TB) (hnat : Cond.native arraycopyName ∈ TB) (hst : Cond.static arraycopyName ∈ TB) (hini : Cond.initialized "java/lang/System" ∈ TB) (q0 q1 : Nat) (e0 : ws[q0]? = some (a0, aI x.g n0 f)) (e1 : ws[q1]? = some (a1, aI x.g n1 h)) (hb : (0 ≤ sp ∧ 0 ≤ dp ∧ 0 ≤ n ∧ sp + n ≤ n0 ∧ dp + n ≤ n1) ∧ n0 < 2147483648 ∧ n1 < 2147483648) (hroom : 1 ≤ fr ∧ (st.map fun v => v.category).sum + (nativeFrameWords "java/lang/System" "arraycopy" 5 + 11) ≤ lo) (d : decode cc pc = .ok (.invokestatic i, 3)) (hw : ws.set q1 (a1, aI x.g n1 (zcpy f h sp dp n)) = ws') (kk : JW x ck sk (pc + 3) lv st ws') : JW x ck sk pc lv (.int (iI n) :: .int (iI dp) :: .ref a1 :: .int (iI sp) :: .ref a0 :: st) ws := by
  intro H locs ls hP hD hS hl
  have ok : ∀ w ∈ TB, w.before x.args x.s = true := B.2.2.2.2.1
  obtain ⟨r1, r2, r3, r4⟩ := B.2.2.2.2.2.2.2.2.2.1
  obtain ⟨⟨h1, h2, h3, h4, h5⟩, b0, b1⟩ := hb
  have n1' : ¬ iI sp < 0 := fun q => absurd ((iI_lt (b := 0) (by omega) (by decide)).mp q) (by omega)
  have n2' : ¬ iI dp < 0 := fun q => absurd ((iI_lt (b := 0) (by omega) (by decide)).mp q) (by omega)
  have n3' : ¬ iI n < 0 := fun q => absurd ((iI_lt (b := 0) (by omega) (by decide)).mp q) (by omega)
  refine va_copyi (ty := .int) B.1 B.2.1 (B.2.2.1.trans (B.2.2.2.2.2.2.2.2.2.2.symm.trans hl.1.symm)) B.2.2.2.1 (ok _ hl0) (ok _ hnat) (ok _ hst) (ok _ hini) B.2.2.2.2.2.1 hP hD hS q0 q1 0 0 e0 e1 rfl rfl rfl n1' n2' n3' ?_ ?_ (fun _ _ => rfl) (Nat.le_trans hroom.1 r1) (Nat.le_trans hroom.2 r2) d (fun H1 locs1 hP1 hD1 hS1 => ?_)
  · rw [iI_clamp h1 (by omega), iI_clamp h3 (by omega)]; omega
  · rw [iI_clamp h2 (by omega), iI_clamp h3 (by omega)]; omega
  · rw [iI_clamp h1 (by omega), iI_clamp h2 (by omega), iI_clamp h3 (by omega), zcpy_of h1 h2 h3, hw] at hP1 hD1
    exact kk H1 locs1 ls hP1 hD1 hS1 hl
end JRows
