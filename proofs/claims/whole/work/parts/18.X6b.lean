set_option maxHeartbeats 4000000 in
set_option maxRecDepth 100000 in
theorem C_X6_gather (l : Launch) (g : GG) (h0 hO hU hK hX v0 hv q0 qc : Nat) (n1 o1 f1 n b0 w0 o sh : Int) (On Un v cf : Int → Int) (hn : 1 ≤ n ∧ n ≤ 400) (ho : 0 ≤ o ∧ o ≤ 4 ∧ o ≤ n) (hs : 0 ≤ sh ∧ sh ≤ 15) (hcf : cfOk cf) (hv9 : vOk v n) : Ctr l g yX6_gather cX6_gather 8 (some .boolean) 2 100 0 0 [.ref h0, .ref v0, .ref q0] [(h0, oX6 hO hU hK hX n1 o1 f1), (hO, aL g 240 On), (hU, aI g 16 Un), (v0, oX10 hv n b0 w0), (hv, aI g 400 v), (q0, oX1 qc o sh), (qc, aI g 4 cf)] (fun vv ww => ∃ (r fin : Int) (On2 Un2 : Int → Int), vv = some (.int (iI r)) ∧ ww = [(h0, oX6 hO hU hK hX n o fin), (hO, aL g 240 On2), (hU, aI g 16 Un2), (v0, oX10 hv n b0 w0), (hv, aI g 400 v), (q0, oX1 qc o sh), (qc, aI g 4 cf)] ∧ isFin n o fin ∧ ((r = 1 ∧ allU (rests v cf o sh) o n ∧ gat (rests v cf o sh) n o fin On2 Un2) ∨ (r = 0 ∧ ¬ allU (rests v cf o sh) o n))) := by
  refine Ctr.of [(0, .ref h0), (1, .ref v0), (2, .ref q0)] (by decide) (Nat.le_of_ble_eq_true rfl) rfl ?_
  intro x hxl hxg jb jr hin
  subst hxl; subst hxg
  refine j_aload_n jb dX6_gather_0 0 rfl ?_
  refine j_aload_n jb dX6_gather_1 1 rfl ?_
  refine j_get jb f_X6_25 dX6_gather_2 3 rfl rfl ?_
  refine j_put (ws' := [(h0, oX6 hO hU hK hX n o1 f1), (hO, aL x.g 240 On), (hU, aI x.g 16 Un), (v0, oX10 hv n b0 w0), (hv, aI x.g 400 v), (q0, oX1 qc o sh), (qc, aI x.g 4 cf)]) jb f_X6_31 w_X6_4 rfl dX6_gather_5 0 rfl rfl rfl (Nat.le_of_ble_eq_true rfl) rfl ?_
  refine j_aload_n jb dX6_gather_8 0 rfl ?_
  refine j_aload_n jb dX6_gather_9 2 rfl ?_
  refine j_get jb f_X6_32 dX6_gather_10 5 rfl rfl ?_
  refine j_put (ws' := [(h0, oX6 hO hU hK hX n o f1), (hO, aL x.g 240 On), (hU, aI x.g 16 Un), (v0, oX10 hv n b0 w0), (hv, aI x.g 400 v), (q0, oX1 qc o sh), (qc, aI x.g 4 cf)]) jb f_X6_37 w_X6_5 rfl dX6_gather_13 0 rfl rfl rfl (Nat.le_of_ble_eq_true rfl) rfl ?_
  refine j_aload_n jb dX6_gather_16 0 rfl ?_
  refine j_iconst jb dX6_gather_17 ?_
  refine j_put (ws' := [(h0, oX6 hO hU hK hX n o 0), (hO, aL x.g 240 On), (hU, aI x.g 16 Un), (v0, oX10 hv n b0 w0), (hv, aI x.g 400 v), (q0, oX1 qc o sh), (qc, aI x.g 4 cf)]) jb f_X6_38 w_X6_6 rfl dX6_gather_18 0 rfl rfl rfl (Nat.le_of_ble_eq_true rfl) rfl ?_
  have L21 : ∀ (fu : Nat) (f : Int), (0 ≤ f ∧ f ≤ 4 ∧ ∀ q, 1 ≤ q → q ≤ f → may n o q) → (4 - f).toNat < fu → JW x 0 0 21 [(0, .ref h0), (1, .ref v0), (2, .ref q0)] [] [(h0, oX6 hO hU hK hX n o f), (hO, aL x.g 240 On), (hU, aI x.g 16 Un), (v0, oX10 hv n b0 w0), (hv, aI x.g 400 v), (q0, oX1 qc o sh), (qc, aI x.g 4 cf)] := by
    intro fu
    induction fu with
    | zero => intro f _ hm; exact absurd hm (by omega)
    | succ fu ih =>
      intro f ⟨hi1, hi2, hi3⟩ hm21
      have ih21 := ih
      clear ih
      refine j_aload_n jb dX6_gather_21 0 rfl ?_
      refine j_get jb f_X6_38 dX6_gather_22 0 rfl rfl ?_
      refine j_iconst jb dX6_gather_25 ?_
      have J62 : isFin n o f → JW x 0 0 62 [(0, .ref h0), (1, .ref v0), (2, .ref q0)] [] [(h0, oX6 hO hU hK hX n o f), (hO, aL x.g 240 On), (hU, aI x.g 16 Un), (v0, oX10 hv n b0 w0), (hv, aI x.g 400 v), (q0, oX1 qc o sh), (qc, aI x.g 4 cf)] := by
        intro  hfin
        have hff := fin_facts (p := f) hn.1 ⟨ho.1, ho.2.2⟩ hfin ⟨hfin.1, Int.le_refl _⟩
        have hf4 := hfin.2.1
        have hf0 := hfin.1
        refine j_aload_n jb dX6_gather_62 0 rfl ?_
        refine j_get jb f_X6_9 dX6_gather_63 0 rfl rfl ?_
        refine j_lconst (z := 0) jb dX6_gather_66 rfl ?_
        refine j_callS (wr := [(h0, oX6 hO hU hK hX n o f), (hU, aI x.g 16 Un), (v0, oX10 hv n b0 w0), (hv, aI x.g 400 v), (q0, oX1 qc o sh), (qc, aI x.g 4 cf)]) jb k_J7_fill_d0a16 t_J7_fill_d0a16 l_X6_45 (C_J7_fill_d0a16 x.l x.g hO On 0 ) [1] [0, 2, 3, 4, 5, 6] (by decide) rfl rfl (by decide) (by decide) rfl rfl (Nat.le_of_ble_eq_true rfl) (by decide) dX6_gather_67 (fun v w hp => ?_)
        obtain ⟨O0, rfl, rfl, h67⟩ := hp
        refine j_norm (lv' := [(0, .ref h0), (1, .ref v0), (2, .ref q0)]) (st' := []) (ws' := [(h0, oX6 hO hU hK hX n o f), (hO, aL x.g 240 O0), (hU, aI x.g 16 Un), (v0, oX10 hv n b0 w0), (hv, aI x.g 400 v), (q0, oX1 qc o sh), (qc, aI x.g 4 cf)]) [0, 1, 2] [0, 6, 1, 2, 3, 4, 5] rfl rfl (by decide) rfl ?_
        refine j_aload_n jb dX6_gather_70 0 rfl ?_
        refine j_get jb f_X6_15 dX6_gather_71 0 rfl rfl ?_
        refine j_iconst jb dX6_gather_74 ?_
        refine j_callS (wr := [(h0, oX6 hO hU hK hX n o f), (hO, aL x.g 240 O0), (v0, oX10 hv n b0 w0), (hv, aI x.g 400 v), (q0, oX1 qc o sh), (qc, aI x.g 4 cf)]) jb k_J7_fill_53178 t_J7_fill_53178 l_X6_51 (C_J7_fill_53178 x.l x.g hU Un 0 ) [2] [0, 1, 3, 4, 5, 6] (by decide) rfl rfl (by decide) (by decide) rfl rfl (Nat.le_of_ble_eq_true rfl) (by decide) dX6_gather_75 (fun v w hp => ?_)
        obtain ⟨U0, rfl, rfl, h75⟩ := hp
        refine j_norm (lv' := [(0, .ref h0), (1, .ref v0), (2, .ref q0)]) (st' := []) (ws' := [(h0, oX6 hO hU hK hX n o f), (hO, aL x.g 240 O0), (hU, aI x.g 16 U0), (v0, oX10 hv n b0 w0), (hv, aI x.g 400 v), (q0, oX1 qc o sh), (qc, aI x.g 4 cf)]) [0, 1, 2] [0, 1, 6, 2, 3, 4, 5] rfl rfl (by decide) rfl ?_
        refine j_aload_n jb dX6_gather_78 0 rfl ?_
        refine j_get jb f_X6_31 dX6_gather_79 0 rfl rfl ?_
        refine j_aload_n jb dX6_gather_82 0 rfl ?_
        refine j_get jb f_X6_38 dX6_gather_83 0 rfl rfl ?_
        refine j_ishr jb dX6_gather_86 (by omega) (by omega) ?_
        refine j_istore_n (lv' := [(3, .int (iI (n / 2 ^ f.toNat))), (0, .ref h0), (1, .ref v0), (2, .ref q0)]) jb dX6_gather_87 rfl (by decide) rfl ?_
        refine j_iconst jb dX6_gather_88 ?_
        refine j_istore (lv' := [(4, .int (iI 0)), (3, .int (iI (n / 2 ^ f.toNat))), (0, .ref h0), (1, .ref v0), (2, .ref q0)]) jb dX6_gather_89 (by decide) rfl ?_
        refine j_iload_n jb dX6_gather_91 1 rfl ?_
        refine j_istore (lv' := [(5, .int (iI (n / 2 ^ f.toNat))), (4, .int (iI 0)), (3, .int (iI (n / 2 ^ f.toNat))), (0, .ref h0), (1, .ref v0), (2, .ref q0)]) jb dX6_gather_92 (by decide) rfl ?_
        refine j_aload_n jb dX6_gather_94 3 rfl ?_
        refine j_get jb f_X6_37 dX6_gather_95 0 rfl rfl ?_
        refine j_istore (lv' := [(6, .int (iI o)), (5, .int (iI (n / 2 ^ f.toNat))), (4, .int (iI 0)), (3, .int (iI (n / 2 ^ f.toNat))), (0, .ref h0), (1, .ref v0), (2, .ref q0)]) jb dX6_gather_98 (by decide) rfl ?_
        have L100 : ∀ (fu : Nat) (i pt en : Int) (O1 U1 : Int → Int), (o ≤ i ∧ i ≤ n ∧ 0 ≤ pt ∧ en = (pt + 1) * (n / 2 ^ f.toNat) ∧ pt * (n / 2 ^ f.toNat) ≤ i ∧ i ≤ en ∧ (∀ q, o ≤ q → q < i → rests v cf o sh q < 16777216) ∧ gatI (rests v cf o sh) o (n / 2 ^ f.toNat) (2 ^ f.toNat) i O1 U1) → (n - i).toNat < fu → JW x 0 0 100 [(0, .ref h0), (1, .ref v0), (2, .ref q0), (3, .int (iI (n / 2 ^ f.toNat))), (4, .int (iI pt)), (5, .int (iI en)), (6, .int (iI i))] [] [(h0, oX6 hO hU hK hX n o f), (hO, aL x.g 240 O1), (hU, aI x.g 16 U1), (v0, oX10 hv n b0 w0), (hv, aI x.g 400 v), (q0, oX1 qc o sh), (qc, aI x.g 4 cf)] := by
          intro fu
          induction fu with
          | zero => intro i pt en O1 U1 _ hm; exact absurd hm (by omega)
          | succ fu ih =>
            intro i pt en O1 U1 ⟨hk1, hk2, hk3, hk4, hk5, hk6, hk7, hk8⟩ hm100
            have ih100 := ih
            clear ih
            refine j_iload jb dX6_gather_100 6 rfl ?_
            refine j_aload_n jb dX6_gather_102 0 rfl ?_
            refine j_get jb f_X6_31 dX6_gather_103 0 rfl rfl ?_
            refine j_icmp_ge (tgt := 157) jb dX6_gather_106 (by decide) (by omega) (by omega) (fun c_106 => ?_) (fun c_106 => ?_)
            · skip
              refine j_iconst jb dX6_gather_157 ?_
              refine j_norm (lv' := []) (st' := [.int (iI 1)]) (ws' := [(h0, oX6 hO hU hK hX n o f), (hO, aL x.g 240 O1), (hU, aI x.g 16 U1), (v0, oX10 hv n b0 w0), (hv, aI x.g 400 v), (q0, oX1 qc o sh), (qc, aI x.g 4 cf)]) [] [0, 1, 2, 3, 4, 5, 6] rfl rfl (by decide) rfl ?_
              exact j_zret jb jr dX6_gather_158 rfl ⟨_, _, _, _, rfl, rfl, ⟨hfin, Or.inl ⟨rfl, fun q h1 h2 => hk7 q h1 (by omega), gat_of ⟨ho.1, hff.1.1⟩ hff.1.2.1 (by rw [show n = i by omega] at hk8 ⊢; exact hk8)⟩⟩⟩
            · skip
              have hen : en ≤ 800 := by (rw [hk4, Int.add_mul, Int.one_mul]; omega)
              refine j_iload jb dX6_gather_109 6 rfl ?_
              refine j_iload jb dX6_gather_111 5 rfl ?_
              have J125 : ∀ (p2 e2 : Int), (0 ≤ p2 ∧ e2 = (p2 + 1) * (n / 2 ^ f.toNat) ∧ p2 * (n / 2 ^ f.toNat) ≤ i ∧ i < e2) → JW x 0 0 125 [(0, .ref h0), (1, .ref v0), (2, .ref q0), (3, .int (iI (n / 2 ^ f.toNat))), (4, .int (iI p2)), (5, .int (iI e2)), (6, .int (iI i))] [] [(h0, oX6 hO hU hK hX n o f), (hO, aL x.g 240 O1), (hU, aI x.g 16 U1), (v0, oX10 hv n b0 w0), (hv, aI x.g 400 v), (q0, oX1 qc o sh), (qc, aI x.g 4 cf)] := by
                intro p2 e2 ⟨hj1, hj2, hj3, hj4⟩
                refine j_aload_n jb dX6_gather_125 1 rfl ?_
                refine j_aload_n jb dX6_gather_126 2 rfl ?_
                refine j_iload jb dX6_gather_127 6 rfl ?_
                refine j_callV (wr := [(h0, oX6 hO hU hK hX n o f), (hO, aL x.g 240 O1), (hU, aI x.g 16 U1)]) jb k_X10_foldedRest i_X10_foldedRest s_X10_foldedRest l_X6_54 (C_X10_foldedRest x.l x.g v0 hv q0 qc v cf n b0 w0 o sh i (by omega) (by omega) (by omega) hcf (fun j h1 h2 => hv9 j h1 (by omega))) 3 12 rfl rfl rfl [3, 4, 5, 6] [0, 1, 2] (by decide) rfl rfl (by decide) (by decide) rfl rfl (Nat.le_of_ble_eq_true rfl) (by decide) dX6_gather_129 (fun v w hp => ?_)
                obtain ⟨u, rfl, rfl, h129⟩ := hp
                refine j_norm (lv' := [(0, .ref h0), (1, .ref v0), (2, .ref q0), (3, .int (iI (n / 2 ^ f.toNat))), (4, .int (iI p2)), (5, .int (iI e2)), (6, .int (iI i))]) (st' := [.int (iI u)]) (ws' := [(h0, oX6 hO hU hK hX n o f), (hO, aL x.g 240 O1), (hU, aI x.g 16 U1), (v0, oX10 hv n b0 w0), (hv, aI x.g 400 v), (q0, oX1 qc o sh), (qc, aI x.g 4 cf)]) [0, 1, 2, 3, 4, 5, 6] [0, 1, 2, 3, 4, 5, 6] rfl rfl (by decide) rfl ?_
                have hu9 := fld_in (e := v i - ft cf v o sh i) (by have h1 := ft_in (sh := sh) ⟨ho.1, ho.2.1⟩ hk1 hcf (show vOk v i from fun j h1 h2 => hv9 j h1 (by omega)); have h2 := hv9 i (by omega) (by omega); omega)
                refine j_istore (lv' := [(7, .int (iI u)), (0, .ref h0), (1, .ref v0), (2, .ref q0), (3, .int (iI (n / 2 ^ f.toNat))), (4, .int (iI p2)), (5, .int (iI e2)), (6, .int (iI i))]) jb dX6_gather_132 (by decide) rfl ?_
                refine j_iload jb dX6_gather_134 0 rfl ?_
                refine j_ldc (z := 16777216) jb q_X6_58 rfl dX6_gather_136 ?_
                refine j_icmp_lt (tgt := 143) jb dX6_gather_138 (by decide) (by omega) (by omega) (fun c_138 => ?_) (fun c_138 => ?_)
                · skip
                  refine j_aload_n jb dX6_gather_143 1 rfl ?_
                  refine j_iload jb dX6_gather_144 5 rfl ?_
                  refine j_iload jb dX6_gather_146 0 rfl ?_
                  refine j_callV (wr := [(v0, oX10 hv n b0 w0), (hv, aI x.g 400 v), (q0, oX1 qc o sh), (qc, aI x.g 4 cf)]) jb k_X6_tally i_X6_tally s_X6_tally l_X6_59 (C_X6_tally x.l x.g h0 hO hU hK hX n o f O1 U1 p2 u ⟨hj1, by have := part_lt hj3 (show i < n by omega) hff.1.2.1 (by omega); omega⟩ (by omega)) 0 8 rfl rfl rfl [0, 1, 2] [3, 4, 5, 6] (by decide) rfl rfl (by decide) (by decide) rfl rfl (Nat.le_of_ble_eq_true rfl) (by decide) dX6_gather_148 (fun v w hp => ?_)
                  obtain ⟨On2_148, rfl, rfl, h148⟩ := hp
                  refine j_norm (lv' := [(7, .int (iI u)), (0, .ref h0), (1, .ref v0), (2, .ref q0), (3, .int (iI (n / 2 ^ f.toNat))), (4, .int (iI p2)), (5, .int (iI e2)), (6, .int (iI i))]) (st' := []) (ws' := [(h0, oX6 hO hU hK hX n o f), (hO, aL x.g 240 On2_148), (hU, aI x.g 16 (zup U1 p2 (zOr (U1 p2) u))), (v0, oX10 hv n b0 w0), (hv, aI x.g 400 v), (q0, oX1 qc o sh), (qc, aI x.g 4 cf)]) [0, 1, 2, 3, 4, 5, 6, 7] [4, 5, 6, 0, 1, 2, 3] rfl rfl (by decide) rfl ?_
                  refine j_iinc (lv' := [(6, .int (iI (i + 1))), (7, .int (iI u)), (0, .ref h0), (1, .ref v0), (2, .ref q0), (3, .int (iI (n / 2 ^ f.toNat))), (4, .int (iI p2)), (5, .int (iI e2))]) jb dX6_gather_151 7 rfl (by decide) rfl ?_
                  refine j_goto (tgt := 100) jb dX6_gather_154 (by decide) ?_
                  refine j_norm (lv' := [(0, .ref h0), (1, .ref v0), (2, .ref q0), (3, .int (iI (n / 2 ^ f.toNat))), (4, .int (iI p2)), (5, .int (iI e2)), (6, .int (iI (i + 1)))]) (st' := []) (ws' := [(h0, oX6 hO hU hK hX n o f), (hO, aL x.g 240 On2_148), (hU, aI x.g 16 (zup U1 p2 (zOr (U1 p2) u))), (v0, oX10 hv n b0 w0), (hv, aI x.g 400 v), (q0, oX1 qc o sh), (qc, aI x.g 4 cf)]) [2, 3, 4, 5, 6, 7, 0] [0, 1, 2, 3, 4, 5, 6] rfl rfl (by decide) rfl ?_
                  exact ih100 (i + 1) p2 e2 On2_148 (zup U1 p2 (zOr (U1 p2) u)) (by have hr : rests v cf o sh i = u := h129.symm; have z := gat_step ⟨ho.1, hff.1.1⟩ hj1 hk1 hj3 (by rw [← hj2]; exact hj4) hk8 (On2 := On2_148) (by rw [hr]; exact h148); rw [hr] at z; exact ⟨by omega, by omega, hj1, hj2, by omega, by omega, fun q h1 h2 => by (by_cases e : q = i); { rw [e, hr]; exact c_138 }; { exact hk7 q h1 (by omega) }, z⟩) (by omega)
                · skip
                  refine j_iconst jb dX6_gather_141 ?_
                  refine j_norm (lv' := []) (st' := [.int (iI 0)]) (ws' := [(h0, oX6 hO hU hK hX n o f), (hO, aL x.g 240 O1), (hU, aI x.g 16 U1), (v0, oX10 hv n b0 w0), (hv, aI x.g 400 v), (q0, oX1 qc o sh), (qc, aI x.g 4 cf)]) [] [0, 1, 2, 3, 4, 5, 6] rfl rfl (by decide) rfl ?_
                  exact j_zret jb jr dX6_gather_142 rfl ⟨_, _, _, _, rfl, rfl, ⟨hfin, Or.inr ⟨rfl, fun h => c_138 (by rw [h129]; exact h i hk1 (by omega))⟩⟩⟩
              refine j_icmp_lt (tgt := 125) jb dX6_gather_113 (by decide) (by omega) (by omega) (fun c_113 => ?_) (fun c_113 => ?_)
              · skip
                refine j_norm (lv' := [(0, .ref h0), (1, .ref v0), (2, .ref q0), (3, .int (iI (n / 2 ^ f.toNat))), (4, .int (iI pt)), (5, .int (iI en)), (6, .int (iI i))]) (st' := []) (ws' := [(h0, oX6 hO hU hK hX n o f), (hO, aL x.g 240 O1), (hU, aI x.g 16 U1), (v0, oX10 hv n b0 w0), (hv, aI x.g 400 v), (q0, oX1 qc o sh), (qc, aI x.g 4 cf)]) [0, 1, 2, 3, 4, 5, 6] [0, 1, 2, 3, 4, 5, 6] rfl rfl (by decide) rfl ?_
                exact J125 pt en ⟨hk3, hk4, hk5, c_113⟩
              · skip
                refine j_iinc (lv' := [(4, .int (iI (pt + 1))), (0, .ref h0), (1, .ref v0), (2, .ref q0), (3, .int (iI (n / 2 ^ f.toNat))), (5, .int (iI en)), (6, .int (iI i))]) jb dX6_gather_116 4 rfl (by decide) rfl ?_
                refine j_iload jb dX6_gather_119 5 rfl ?_
                refine j_iload_n jb dX6_gather_121 4 rfl ?_
                refine j_iadd jb dX6_gather_122 ?_
                refine j_istore (lv' := [(5, .int (iI (en + (n / 2 ^ f.toNat)))), (4, .int (iI (pt + 1))), (0, .ref h0), (1, .ref v0), (2, .ref q0), (3, .int (iI (n / 2 ^ f.toNat))), (6, .int (iI i))]) jb dX6_gather_123 (by decide) rfl ?_
                refine j_norm (lv' := [(0, .ref h0), (1, .ref v0), (2, .ref q0), (3, .int (iI (n / 2 ^ f.toNat))), (4, .int (iI (pt + 1))), (5, .int (iI (en + (n / 2 ^ f.toNat)))), (6, .int (iI i))]) (st' := []) (ws' := [(h0, oX6 hO hU hK hX n o f), (hO, aL x.g 240 O1), (hU, aI x.g 16 U1), (v0, oX10 hv n b0 w0), (hv, aI x.g 400 v), (q0, oX1 qc o sh), (qc, aI x.g 4 cf)]) [2, 3, 4, 5, 1, 0, 6] [0, 1, 2, 3, 4, 5, 6] rfl rfl (by decide) rfl ?_
                exact J125 (pt + 1) (en + (n / 2 ^ f.toNat)) ⟨by omega, by rw [hk4, Int.add_mul (pt + 1), Int.one_mul], by rw [← hk4]; omega, by omega⟩
        refine j_norm (lv' := [(0, .ref h0), (1, .ref v0), (2, .ref q0), (3, .int (iI (n / 2 ^ f.toNat))), (4, .int (iI 0)), (5, .int (iI (n / 2 ^ f.toNat))), (6, .int (iI o))]) (st' := []) (ws' := [(h0, oX6 hO hU hK hX n o f), (hO, aL x.g 240 O0), (hU, aI x.g 16 U0), (v0, oX10 hv n b0 w0), (hv, aI x.g 400 v), (q0, oX1 qc o sh), (qc, aI x.g 4 cf)]) [4, 5, 6, 3, 2, 1, 0] [0, 1, 2, 3, 4, 5, 6] rfl rfl (by decide) rfl ?_
        exact L100 _ o 0 (n / 2 ^ f.toNat) O0 U0 ⟨Int.le_refl _, ho.2.2, by decide, by rw [Int.zero_add, Int.one_mul], by rw [Int.zero_mul]; exact ho.1, hff.1.1, fun q h1 h2 => by omega, gat_init ⟨ho.1, hff.1.1⟩ hff.2.2 h67 h75⟩ (Nat.lt_succ_self _)
      refine j_icmp_ge (tgt := 62) jb dX6_gather_26 (by decide) (by omega) (by omega) (fun c_26 => ?_) (fun c_26 => ?_)
      · skip
        refine j_norm (lv' := [(0, .ref h0), (1, .ref v0), (2, .ref q0)]) (st' := []) (ws' := [(h0, oX6 hO hU hK hX n o f), (hO, aL x.g 240 On), (hU, aI x.g 16 Un), (v0, oX10 hv n b0 w0), (hv, aI x.g 400 v), (q0, oX1 qc o sh), (qc, aI x.g 4 cf)]) [0, 1, 2] [0, 1, 2, 3, 4, 5, 6] rfl rfl (by decide) rfl ?_
        exact J62  ⟨hi1, hi2, hi3, fun h => by omega⟩
      · skip
        refine j_aload_n jb dX6_gather_29 0 rfl ?_
        refine j_get jb f_X6_38 dX6_gather_30 0 rfl rfl ?_
        refine j_iconst jb dX6_gather_33 ?_
        refine j_iadd jb dX6_gather_34 ?_
        refine j_aload_n jb dX6_gather_35 0 rfl ?_
        refine j_get jb f_X6_31 dX6_gather_36 0 rfl rfl ?_
        refine j_aload_n jb dX6_gather_39 0 rfl ?_
        refine j_get jb f_X6_37 dX6_gather_40 0 rfl rfl ?_
        refine j_callSN (wr := [(h0, oX6 hO hU hK hX n o f), (hO, aL x.g 240 On), (hU, aI x.g 16 Un), (v0, oX10 hv n b0 w0), (hv, aI x.g 400 v), (q0, oX1 qc o sh), (qc, aI x.g 4 cf)]) jb k_X11_mayBeP t_X11_mayBeP n_X6_41 (C_X11_mayBeP x.l x.g (f + 1) n o (by omega) (by omega) (by omega)) [] [0, 1, 2, 3, 4, 5, 6] (by decide) rfl rfl (by decide) (by decide) rfl rfl (Nat.le_of_ble_eq_true rfl) (by decide) dX6_gather_43 (fun v w hp => ?_)
        obtain ⟨rfl, rfl⟩ := hp
        refine j_norm (lv' := [(0, .ref h0), (1, .ref v0), (2, .ref q0)]) (st' := [.int (iI (b2i ((f + 1) ≤ 4 ∧ n % 2 ^ (f + 1).toNat = 0 ∧ o ≤ n / 2 ^ (f + 1).toNat)))]) (ws' := [(h0, oX6 hO hU hK hX n o f), (hO, aL x.g 240 On), (hU, aI x.g 16 Un), (v0, oX10 hv n b0 w0), (hv, aI x.g 400 v), (q0, oX1 qc o sh), (qc, aI x.g 4 cf)]) [0, 1, 2] [0, 1, 2, 3, 4, 5, 6] rfl rfl (by decide) rfl ?_
        refine j_ifb_eq (tgt := 62) jb dX6_gather_46 (by decide) (fun c_46 => ?_) (fun c_46 => ?_)
        · skip
          refine j_norm (lv' := [(0, .ref h0), (1, .ref v0), (2, .ref q0)]) (st' := []) (ws' := [(h0, oX6 hO hU hK hX n o f), (hO, aL x.g 240 On), (hU, aI x.g 16 Un), (v0, oX10 hv n b0 w0), (hv, aI x.g 400 v), (q0, oX1 qc o sh), (qc, aI x.g 4 cf)]) [0, 1, 2] [0, 1, 2, 3, 4, 5, 6] rfl rfl (by decide) rfl ?_
          exact J62  ⟨hi1, hi2, hi3, fun _ h => c_46 ⟨by omega, h⟩⟩
        · skip
          refine j_aload_n jb dX6_gather_49 0 rfl ?_
          refine j_dup jb dX6_gather_50 rfl ?_
          refine j_get jb f_X6_38 dX6_gather_51 0 rfl rfl ?_
          refine j_iconst jb dX6_gather_54 ?_
          refine j_iadd jb dX6_gather_55 ?_
          refine j_put (ws' := [(h0, oX6 hO hU hK hX n o (f + 1)), (hO, aL x.g 240 On), (hU, aI x.g 16 Un), (v0, oX10 hv n b0 w0), (hv, aI x.g 400 v), (q0, oX1 qc o sh), (qc, aI x.g 4 cf)]) jb f_X6_38 w_X6_6 rfl dX6_gather_56 0 rfl rfl rfl (Nat.le_of_ble_eq_true rfl) rfl ?_
          refine j_goto (tgt := 21) jb dX6_gather_59 (by decide) ?_
          refine j_norm (lv' := [(0, .ref h0), (1, .ref v0), (2, .ref q0)]) (st' := []) (ws' := [(h0, oX6 hO hU hK hX n o (f + 1)), (hO, aL x.g 240 On), (hU, aI x.g 16 Un), (v0, oX10 hv n b0 w0), (hv, aI x.g 400 v), (q0, oX1 qc o sh), (qc, aI x.g 4 cf)]) [0, 1, 2] [0, 1, 2, 3, 4, 5, 6] rfl rfl (by decide) rfl ?_
          exact ih21 (f + 1) ⟨by omega, by omega, fun q h1 h2 => by (by_cases e : q = f + 1); { rw [e]; exact c_46.2 }; { exact hi3 q h1 (by omega) }⟩ (by omega)
  refine j_norm (lv' := [(0, .ref h0), (1, .ref v0), (2, .ref q0)]) (st' := []) (ws' := [(h0, oX6 hO hU hK hX n o 0), (hO, aL x.g 240 On), (hU, aI x.g 16 Un), (v0, oX10 hv n b0 w0), (hv, aI x.g 400 v), (q0, oX1 qc o sh), (qc, aI x.g 4 cf)]) [0, 1, 2] [0, 1, 2, 3, 4, 5, 6] rfl rfl (by decide) rfl ?_
  exact L21 _ 0 ⟨by decide, by decide, fun q h1 h2 => by omega⟩ (Nat.lt_succ_self _)

