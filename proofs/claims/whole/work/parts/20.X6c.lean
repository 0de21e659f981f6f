set_option maxHeartbeats 4000000 in
set_option maxRecDepth 100000 in
theorem C_X6_chooseParts (l : Launch) (g : GG) (h0 hO hU hK hX g0 gk gx : Nat) (n o fin kd ws bi p0 : Int) (On Un K0 X0 fk0 fx0 U : Int → Int) (hn : 1 ≤ n ∧ n ≤ 400) (ho : 0 ≤ o ∧ o ≤ 4 ∧ o ≤ n) (hU9 : uIn U o n) (hfin : isFin n o fin) (hg : gat U n o fin On Un) : Ctr l g yX6_chooseParts cX6_chooseParts 6 (some .int) 2 120 0 0 [.ref h0, .ref g0] [(h0, oX6 hO hU hK hX n o fin), (hO, aL g 240 On), (hU, aI g 16 Un), (hK, aI g 16 K0), (hX, aI g 16 X0), (g0, oX8 gk gx kd ws bi p0), (gk, aI g 16 fk0), (gx, aI g 16 fx0)] (fun vv ww => ∃ (r fp : Int) (On2 Un2 K2 X2 fk2 fx2 : Int → Int), vv = some (.int (iI r)) ∧ ww = [(h0, oX6 hO hU hK hX n o fin), (hO, aL g 240 On2), (hU, aI g 16 Un2), (hK, aI g 16 K2), (hX, aI g 16 X2), (g0, oX8 gk gx kd ws bi fp), (gk, aI g 16 fk2), (gx, aI g 16 fx2)] ∧ FM (lvB U n o) 0 fin r fp ∧ kx U n o fp fk2 fx2 ∧ 0 ≤ r ∧ r ≤ 200000) := by
  refine Ctr.of [(0, .ref h0), (1, .ref g0)] (by decide) (Nat.le_of_ble_eq_true rfl) rfl ?_
  intro x hxl hxg jb jr hin
  subst hxl; subst hxg
  have hf0 := hfin.1
  have hf4 := hfin.2.1
  refine j_iconst jb dX6_chooseParts_0 ?_
  refine j_istore_n (lv' := [(2, .int (iI (-1))), (0, .ref h0), (1, .ref g0)]) jb dX6_chooseParts_1 rfl (by decide) rfl ?_
  refine j_aload_n jb dX6_chooseParts_2 1 rfl ?_
  refine j_get jb f_X6_38 dX6_chooseParts_3 0 rfl rfl ?_
  refine j_istore_n (lv' := [(3, .int (iI fin)), (2, .int (iI (-1))), (0, .ref h0), (1, .ref g0)]) jb dX6_chooseParts_6 rfl (by decide) rfl ?_
  have L7 : ∀ (fu : Nat) (best p fp : Int) (O1 U1 K1 X1 fk fx : Int → Int), (-1 ≤ p ∧ p ≤ fin ∧ (p = fin → best = -1) ∧ (p < fin → (FM (lvB U n o) (p + 1) fin best fp ∧ kx U n o fp fk fx) ∧ 0 ≤ best ∧ best ≤ 200000) ∧ (0 ≤ p → gat U n o p O1 U1)) → (p + 1).toNat < fu → JW x 0 0 7 [(0, .ref h0), (1, .ref g0), (2, .int (iI best)), (3, .int (iI p))] [] [(h0, oX6 hO hU hK hX n o fin), (hO, aL x.g 240 O1), (hU, aI x.g 16 U1), (hK, aI x.g 16 K1), (hX, aI x.g 16 X1), (g0, oX8 gk gx kd ws bi fp), (gk, aI x.g 16 fk), (gx, aI x.g 16 fx)] := by
    intro fu
    induction fu with
    | zero => intro best p fp O1 U1 K1 X1 fk fx _ hm; exact absurd hm (by omega)
    | succ fu ih =>
      intro best p fp O1 U1 K1 X1 fk fx ⟨hi1, hi2, hi3, hi4, hi5⟩ hm7
      have ih7 := ih
      clear ih
      refine j_iload_n jb dX6_chooseParts_7 3 rfl ?_
      refine j_if_lt (tgt := 131) jb dX6_chooseParts_8 (by decide) (by omega) (fun c_8 => ?_) (fun c_8 => ?_)
      · skip
        have hpm : p = -1 := by omega
        have hres := hi4 (by omega)
        refine j_iload_n jb dX6_chooseParts_131 2 rfl ?_
        refine j_norm (lv' := []) (st' := [.int (iI best)]) (ws' := [(h0, oX6 hO hU hK hX n o fin), (hO, aL x.g 240 O1), (hU, aI x.g 16 U1), (hK, aI x.g 16 K1), (hX, aI x.g 16 X1), (g0, oX8 gk gx kd ws bi fp), (gk, aI x.g 16 fk), (gx, aI x.g 16 fx)]) [] [0, 1, 2, 3, 4, 5, 6, 7] rfl rfl (by decide) rfl ?_
        exact j_iret jb jr dX6_chooseParts_132 ⟨_, _, _, _, _, _, _, _, rfl, rfl, (by rw [hpm] at hres; exact ⟨hres.1.1, hres.1.2, hres.2⟩)⟩
      · skip
        have hp0 : 0 ≤ p := by omega
        have hgp := hi5 hp0
        have hff := fin_facts (p := p) hn.1 ⟨ho.1, ho.2.2⟩ hfin ⟨hp0, hi2⟩
        refine j_iconst jb dX6_chooseParts_11 ?_
        refine j_istore (lv' := [(4, .int (iI 3)), (0, .ref h0), (1, .ref g0), (2, .int (iI best)), (3, .int (iI p))]) jb dX6_chooseParts_12 (by decide) rfl ?_
        refine j_iconst jb dX6_chooseParts_14 ?_
        refine j_istore (lv' := [(5, .int (iI 0)), (4, .int (iI 3)), (0, .ref h0), (1, .ref g0), (2, .int (iI best)), (3, .int (iI p))]) jb dX6_chooseParts_15 (by decide) rfl ?_
        have L17 : ∀ (fu : Nat) (bits j : Int) (K2 X2 : Int → Int), (0 ≤ j ∧ j ≤ 2 ^ p.toNat ∧ bits = 3 + psum U o (n / 2 ^ p.toNat) j.toNat ∧ (0 ≤ bits ∧ bits ≤ 3 + j * 9609) ∧ (∀ q, 0 ≤ q → q < j → K2 q = (pS U o (n / 2 ^ p.toNat) q).2.1 ∧ X2 q = (pS U o (n / 2 ^ p.toNat) q).2.2)) → (2 ^ p.toNat - j).toNat < fu → JW x 0 0 17 [(0, .ref h0), (1, .ref g0), (2, .int (iI best)), (3, .int (iI p)), (4, .int (iI bits)), (5, .int (iI j))] [] [(h0, oX6 hO hU hK hX n o fin), (hO, aL x.g 240 O1), (hU, aI x.g 16 U1), (hK, aI x.g 16 K2), (hX, aI x.g 16 X2), (g0, oX8 gk gx kd ws bi fp), (gk, aI x.g 16 fk), (gx, aI x.g 16 fx)] := by
          intro fu
          induction fu with
          | zero => intro bits j K2 X2 _ hm; exact absurd hm (by omega)
          | succ fu ih =>
            intro bits j K2 X2 ⟨hk1, hk2, hk3, hk4, hk5⟩ hm17
            have ih17 := ih
            clear ih
            refine j_iload jb dX6_chooseParts_17 5 rfl ?_
            refine j_iconst jb dX6_chooseParts_19 ?_
            refine j_iload_n jb dX6_chooseParts_20 3 rfl ?_
            refine j_ishl jb dX6_chooseParts_21 (by omega) ?_
            refine j_icmp_ge (tgt := 67) jb dX6_chooseParts_22 (by decide) (by omega) (by omega) (fun c_22 => ?_) (fun c_22 => ?_)
            · skip
              have hje : j = 2 ^ p.toNat := by omega
              have hlv : bits = lvB U n o p.toNat := by (rw [hk3]; unfold lvB; rw [show j.toNat = 2 ^ p.toNat from pw_nat hje])
              have hbb : -1 ≤ best ∧ best ≤ 200000 := by (by_cases q : p = fin); { have := hi3 q; omega }; { have := (hi4 (by omega)).2; omega }
              refine j_iload_n jb dX6_chooseParts_67 2 rfl ?_
              refine j_iconst jb dX6_chooseParts_68 ?_
              have J116 : ∀ (b2 fp2 : Int) (fk2 fx2 : Int → Int), ((FM (lvB U n o) p fin b2 fp2 ∧ kx U n o fp2 fk2 fx2) ∧ 0 ≤ b2 ∧ b2 ≤ 200000) → JW x 0 0 116 [(0, .ref h0), (1, .ref g0), (2, .int (iI b2)), (3, .int (iI p))] [] [(h0, oX6 hO hU hK hX n o fin), (hO, aL x.g 240 O1), (hU, aI x.g 16 U1), (hK, aI x.g 16 K2), (hX, aI x.g 16 X2), (g0, oX8 gk gx kd ws bi fp2), (gk, aI x.g 16 fk2), (gx, aI x.g 16 fx2)] := by
                intro b2 fp2 fk2 fx2 hj
                refine j_aload_n jb dX6_chooseParts_116 0 rfl ?_
                refine j_iconst jb dX6_chooseParts_117 ?_
                refine j_iload_n jb dX6_chooseParts_118 3 rfl ?_
                refine j_ishl jb dX6_chooseParts_119 (by omega) ?_
                refine j_iconst jb dX6_chooseParts_120 ?_
                refine j_idiv jb dX6_chooseParts_121 (by omega) ?_
                refine j_callV (wr := [(hK, aI x.g 16 K2), (hX, aI x.g 16 X2), (g0, oX8 gk gx kd ws bi fp2), (gk, aI x.g 16 fk2), (gx, aI x.g 16 fx2)]) jb k_X6_joinPairs i_X6_joinPairs s_X6_joinPairs l_X6_80 (C_X6_joinPairs x.l x.g h0 hO hU hK hX n o fin O1 U1 ((1 * 2 ^ p.toNat) / 2) (by omega)) 0 8 rfl rfl rfl [0, 1, 2] [3, 4, 5, 6, 7] (by decide) rfl rfl (by decide) (by decide) rfl rfl (Nat.le_of_ble_eq_true rfl) (by decide) dX6_chooseParts_122 (fun v w hp => ?_)
                obtain ⟨O3, U3, rfl, rfl, h122⟩ := hp
                refine j_norm (lv' := [(0, .ref h0), (1, .ref g0), (2, .int (iI b2)), (3, .int (iI p))]) (st' := []) (ws' := [(h0, oX6 hO hU hK hX n o fin), (hO, aL x.g 240 O3), (hU, aI x.g 16 U3), (hK, aI x.g 16 K2), (hX, aI x.g 16 X2), (g0, oX8 gk gx kd ws bi fp2), (gk, aI x.g 16 fk2), (gx, aI x.g 16 fx2)]) [0, 1, 2, 3] [5, 6, 7, 0, 1, 2, 3, 4] rfl rfl (by decide) rfl ?_
                refine j_iinc (lv' := [(3, .int (iI (p + -1))), (0, .ref h0), (1, .ref g0), (2, .int (iI b2))]) jb dX6_chooseParts_125 3 rfl (by decide) rfl ?_
                refine j_goto (tgt := 7) jb dX6_chooseParts_128 (by decide) ?_
                refine j_norm (lv' := [(0, .ref h0), (1, .ref g0), (2, .int (iI b2)), (3, .int (iI (p + -1)))]) (st' := []) (ws' := [(h0, oX6 hO hU hK hX n o fin), (hO, aL x.g 240 O3), (hU, aI x.g 16 U3), (hK, aI x.g 16 K2), (hX, aI x.g 16 X2), (g0, oX8 gk gx kd ws bi fp2), (gk, aI x.g 16 fk2), (gx, aI x.g 16 fx2)]) [1, 2, 3, 0] [0, 1, 2, 3, 4, 5, 6, 7] rfl rfl (by decide) rfl ?_
                exact ih7 b2 (p + -1) fp2 O3 U3 K2 X2 fk2 fx2 ⟨by omega, by omega, fun h => by omega, fun _ => by rw [show p + -1 + 1 = p by omega]; exact hj, fun h => gat_join hU9 ⟨by omega, by omega⟩ ⟨ho.1, hff.1.1⟩ hff.1.2.1 hgp (by rw [Int.one_mul] at h122; exact h122.1) (by rw [Int.one_mul] at h122; exact h122.2)⟩ (by omega)
              refine j_icmp_eq (tgt := 78) jb dX6_chooseParts_69 (by decide) (by omega) (by omega) (fun c_69 => ?_) (fun c_69 => ?_)
              · skip
                refine j_iload jb dX6_chooseParts_78 4 rfl ?_
                refine j_istore_n (lv' := [(2, .int (iI bits)), (0, .ref h0), (1, .ref g0), (3, .int (iI p)), (4, .int (iI bits)), (5, .int (iI j))]) jb dX6_chooseParts_80 rfl (by decide) rfl ?_
                refine j_aload_n jb dX6_chooseParts_81 2 rfl ?_
                refine j_iload_n jb dX6_chooseParts_82 3 rfl ?_
                refine j_put (ws' := [(h0, oX6 hO hU hK hX n o fin), (hO, aL x.g 240 O1), (hU, aI x.g 16 U1), (hK, aI x.g 16 K2), (hX, aI x.g 16 X2), (g0, oX8 gk gx kd ws bi p), (gk, aI x.g 16 fk), (gx, aI x.g 16 fx)]) jb f_X6_67 w_X8_5 rfl dX6_chooseParts_83 5 rfl rfl rfl (Nat.le_of_ble_eq_true rfl) rfl ?_
                refine j_aload_n jb dX6_chooseParts_86 1 rfl ?_
                refine j_get jb f_X6_19 dX6_chooseParts_87 0 rfl rfl ?_
                refine j_iconst jb dX6_chooseParts_90 ?_
                refine j_aload_n jb dX6_chooseParts_91 2 rfl ?_
                refine j_get jb f_X6_72 dX6_chooseParts_92 5 rfl rfl ?_
                refine j_iconst jb dX6_chooseParts_95 ?_
                refine j_bipush jb dX6_chooseParts_96 (by decide) ?_
                refine j_copy (ws' := [(h0, oX6 hO hU hK hX n o fin), (hO, aL x.g 240 O1), (hU, aI x.g 16 U1), (hK, aI x.g 16 K2), (hX, aI x.g 16 X2), (g0, oX8 gk gx kd ws bi p), (gk, aI x.g 16 (zcpy K2 fk 0 0 16)), (gx, aI x.g 16 fx)]) jb l_X6_73 ac_native ac_static ac_init 3 6 rfl rfl (by omega) ⟨by decide, Nat.le_of_ble_eq_true rfl⟩ dX6_chooseParts_98 rfl ?_
                refine j_aload_n jb dX6_chooseParts_101 1 rfl ?_
                refine j_get jb f_X6_22 dX6_chooseParts_102 0 rfl rfl ?_
                refine j_iconst jb dX6_chooseParts_105 ?_
                refine j_aload_n jb dX6_chooseParts_106 2 rfl ?_
                refine j_get jb f_X6_79 dX6_chooseParts_107 5 rfl rfl ?_
                refine j_iconst jb dX6_chooseParts_110 ?_
                refine j_bipush jb dX6_chooseParts_111 (by decide) ?_
                refine j_copy (ws' := [(h0, oX6 hO hU hK hX n o fin), (hO, aL x.g 240 O1), (hU, aI x.g 16 U1), (hK, aI x.g 16 K2), (hX, aI x.g 16 X2), (g0, oX8 gk gx kd ws bi p), (gk, aI x.g 16 (zcpy K2 fk 0 0 16)), (gx, aI x.g 16 (zcpy X2 fx 0 0 16))]) jb l_X6_73 ac_native ac_static ac_init 4 7 rfl rfl (by omega) ⟨by decide, Nat.le_of_ble_eq_true rfl⟩ dX6_chooseParts_113 rfl ?_
                refine j_norm (lv' := [(0, .ref h0), (1, .ref g0), (2, .int (iI bits)), (3, .int (iI p))]) (st' := []) (ws' := [(h0, oX6 hO hU hK hX n o fin), (hO, aL x.g 240 O1), (hU, aI x.g 16 U1), (hK, aI x.g 16 K2), (hX, aI x.g 16 X2), (g0, oX8 gk gx kd ws bi p), (gk, aI x.g 16 (zcpy K2 fk 0 0 16)), (gx, aI x.g 16 (zcpy X2 fx 0 0 16))]) [1, 2, 0, 3] [0, 1, 2, 3, 4, 5, 6, 7] rfl rfl (by decide) rfl ?_
                exact J116 bits p (zcpy K2 fk 0 0 16) (zcpy X2 fx 0 0 16) ⟨⟨(by (by_cases q : p = fin); { rw [← q]; exact FM_one hlv }; { exact FM_new (hi4 (by omega)).1.1 hlv (by have := (hi4 (by omega)).2; omega) }), fun q h1 h2 => by rw [zcpy_16 h1 (by omega), zcpy_16 h1 (by omega)]; exact hk5 q h1 (by omega)⟩, by omega, by omega⟩
              · skip
                refine j_iload jb dX6_chooseParts_72 4 rfl ?_
                refine j_iload_n jb dX6_chooseParts_74 2 rfl ?_
                refine j_icmp_gt (tgt := 116) jb dX6_chooseParts_75 (by decide) (by omega) (by omega) (fun c_75 => ?_) (fun c_75 => ?_)
                · skip
                  refine j_norm (lv' := [(0, .ref h0), (1, .ref g0), (2, .int (iI best)), (3, .int (iI p))]) (st' := []) (ws' := [(h0, oX6 hO hU hK hX n o fin), (hO, aL x.g 240 O1), (hU, aI x.g 16 U1), (hK, aI x.g 16 K2), (hX, aI x.g 16 X2), (g0, oX8 gk gx kd ws bi fp), (gk, aI x.g 16 fk), (gx, aI x.g 16 fx)]) [0, 1, 2, 3] [0, 1, 2, 3, 4, 5, 6, 7] rfl rfl (by decide) rfl ?_
                  exact J116 best fp fk fx (by have hp : p < fin := (by (by_cases q : p = fin); { exact absurd (hi3 q) c_69 }; { omega }); exact ⟨⟨FM_old (hi4 hp).1.1 hlv (by omega), (hi4 hp).1.2⟩, (hi4 hp).2⟩)
                · skip
                  refine j_iload jb dX6_chooseParts_78 4 rfl ?_
                  refine j_istore_n (lv' := [(2, .int (iI bits)), (0, .ref h0), (1, .ref g0), (3, .int (iI p)), (4, .int (iI bits)), (5, .int (iI j))]) jb dX6_chooseParts_80 rfl (by decide) rfl ?_
                  refine j_aload_n jb dX6_chooseParts_81 2 rfl ?_
                  refine j_iload_n jb dX6_chooseParts_82 3 rfl ?_
                  refine j_put (ws' := [(h0, oX6 hO hU hK hX n o fin), (hO, aL x.g 240 O1), (hU, aI x.g 16 U1), (hK, aI x.g 16 K2), (hX, aI x.g 16 X2), (g0, oX8 gk gx kd ws bi p), (gk, aI x.g 16 fk), (gx, aI x.g 16 fx)]) jb f_X6_67 w_X8_5 rfl dX6_chooseParts_83 5 rfl rfl rfl (Nat.le_of_ble_eq_true rfl) rfl ?_
                  refine j_aload_n jb dX6_chooseParts_86 1 rfl ?_
                  refine j_get jb f_X6_19 dX6_chooseParts_87 0 rfl rfl ?_
                  refine j_iconst jb dX6_chooseParts_90 ?_
                  refine j_aload_n jb dX6_chooseParts_91 2 rfl ?_
                  refine j_get jb f_X6_72 dX6_chooseParts_92 5 rfl rfl ?_
                  refine j_iconst jb dX6_chooseParts_95 ?_
                  refine j_bipush jb dX6_chooseParts_96 (by decide) ?_
                  refine j_copy (ws' := [(h0, oX6 hO hU hK hX n o fin), (hO, aL x.g 240 O1), (hU, aI x.g 16 U1), (hK, aI x.g 16 K2), (hX, aI x.g 16 X2), (g0, oX8 gk gx kd ws bi p), (gk, aI x.g 16 (zcpy K2 fk 0 0 16)), (gx, aI x.g 16 fx)]) jb l_X6_73 ac_native ac_static ac_init 3 6 rfl rfl (by omega) ⟨by decide, Nat.le_of_ble_eq_true rfl⟩ dX6_chooseParts_98 rfl ?_
                  refine j_aload_n jb dX6_chooseParts_101 1 rfl ?_
                  refine j_get jb f_X6_22 dX6_chooseParts_102 0 rfl rfl ?_
                  refine j_iconst jb dX6_chooseParts_105 ?_
                  refine j_aload_n jb dX6_chooseParts_106 2 rfl ?_
                  refine j_get jb f_X6_79 dX6_chooseParts_107 5 rfl rfl ?_
                  refine j_iconst jb dX6_chooseParts_110 ?_
                  refine j_bipush jb dX6_chooseParts_111 (by decide) ?_
                  refine j_copy (ws' := [(h0, oX6 hO hU hK hX n o fin), (hO, aL x.g 240 O1), (hU, aI x.g 16 U1), (hK, aI x.g 16 K2), (hX, aI x.g 16 X2), (g0, oX8 gk gx kd ws bi p), (gk, aI x.g 16 (zcpy K2 fk 0 0 16)), (gx, aI x.g 16 (zcpy X2 fx 0 0 16))]) jb l_X6_73 ac_native ac_static ac_init 4 7 rfl rfl (by omega) ⟨by decide, Nat.le_of_ble_eq_true rfl⟩ dX6_chooseParts_113 rfl ?_
                  refine j_norm (lv' := [(0, .ref h0), (1, .ref g0), (2, .int (iI bits)), (3, .int (iI p))]) (st' := []) (ws' := [(h0, oX6 hO hU hK hX n o fin), (hO, aL x.g 240 O1), (hU, aI x.g 16 U1), (hK, aI x.g 16 K2), (hX, aI x.g 16 X2), (g0, oX8 gk gx kd ws bi p), (gk, aI x.g 16 (zcpy K2 fk 0 0 16)), (gx, aI x.g 16 (zcpy X2 fx 0 0 16))]) [1, 2, 0, 3] [0, 1, 2, 3, 4, 5, 6, 7] rfl rfl (by decide) rfl ?_
                  exact J116 bits p (zcpy K2 fk 0 0 16) (zcpy X2 fx 0 0 16) ⟨⟨(by (by_cases q : p = fin); { rw [← q]; exact FM_one hlv }; { exact FM_new (hi4 (by omega)).1.1 hlv (by have := (hi4 (by omega)).2; omega) }), fun q h1 h2 => by rw [zcpy_16 h1 (by omega), zcpy_16 h1 (by omega)]; exact hk5 q h1 (by omega)⟩, by omega, by omega⟩
            · skip
              refine j_iload jb dX6_chooseParts_25 4 rfl ?_
              refine j_aload_n jb dX6_chooseParts_27 0 rfl ?_
              refine j_iload jb dX6_chooseParts_28 5 rfl ?_
              refine j_iload jb dX6_chooseParts_30 5 rfl ?_
              have J55 : ∀ (cnt : Int), cnt = pln o (n / 2 ^ p.toNat) j → JW x 0 0 55 [(0, .ref h0), (1, .ref g0), (2, .int (iI best)), (3, .int (iI p)), (4, .int (iI bits)), (5, .int (iI j))] [.int (iI cnt), .int (iI j), .ref h0, .int (iI bits)] [(h0, oX6 hO hU hK hX n o fin), (hO, aL x.g 240 O1), (hU, aI x.g 16 U1), (hK, aI x.g 16 K2), (hX, aI x.g 16 X2), (g0, oX8 gk gx kd ws bi fp), (gk, aI x.g 16 fk), (gx, aI x.g 16 fx)] := by
                intro cnt hcnt
                have hjp : j < 2 ^ p.toNat := by omega
                have hgi := gat_in hU9 hn.2 ⟨ho.1, hff.1.1⟩ hff.1.2.1 hgp ⟨hk1, hjp⟩
                refine j_callV (wr := [(g0, oX8 gk gx kd ws bi fp), (gk, aI x.g 16 fk), (gx, aI x.g 16 fx)]) jb k_X6_weighPart i_X6_weighPart s_X6_weighPart l_X6_63 (C_X6_weighPart x.l x.g h0 hO hU hK hX n o fin O1 U1 K2 X2 j cnt ⟨hk1, by omega⟩ (by have r := prange ⟨ho.1, hff.1.1⟩ hff.1.2.1 ⟨hk1, hjp⟩; omega) hgi.1 hgi.2) 0 8 rfl rfl rfl [0, 1, 2, 3, 4] [5, 6, 7] (by decide) rfl rfl (by decide) (by decide) rfl rfl (Nat.le_of_ble_eq_true rfl) (by decide) dX6_chooseParts_55 (fun v w hp => ?_)
                obtain ⟨rw1, xw, K3, X3, rfl, rfl, h55⟩ := hp
                refine j_norm (lv' := [(0, .ref h0), (1, .ref g0), (2, .int (iI best)), (3, .int (iI p)), (4, .int (iI bits)), (5, .int (iI j))]) (st' := [.int (iI rw1), .int (iI bits)]) (ws' := [(h0, oX6 hO hU hK hX n o fin), (hO, aL x.g 240 O1), (hU, aI x.g 16 U1), (hK, aI x.g 16 K3), (hX, aI x.g 16 X3), (g0, oX8 gk gx kd ws bi fp), (gk, aI x.g 16 fk), (gx, aI x.g 16 fx)]) [0, 1, 2, 3, 4, 5] [3, 4, 5, 6, 7, 0, 1, 2] rfl rfl (by decide) rfl ?_
                have hr9 := partSel_in (S := fun t => O1 (j * 15 + t)) (cnt := cnt) (x := xw) (by have r := prange ⟨ho.1, hff.1.1⟩ hff.1.2.1 ⟨hk1, hjp⟩; omega) (bl_24 h55.1 hgi.1.2) hgi.2
                rw [← h55.2.1.1] at hr9
                refine j_iadd jb dX6_chooseParts_58 ?_
                refine j_istore (lv' := [(4, .int (iI (bits + rw1))), (0, .ref h0), (1, .ref g0), (2, .int (iI best)), (3, .int (iI p)), (5, .int (iI j))]) jb dX6_chooseParts_59 (by decide) rfl ?_
                refine j_iinc (lv' := [(5, .int (iI (j + 1))), (4, .int (iI (bits + rw1))), (0, .ref h0), (1, .ref g0), (2, .int (iI best)), (3, .int (iI p))]) jb dX6_chooseParts_61 5 rfl (by decide) rfl ?_
                refine j_goto (tgt := 17) jb dX6_chooseParts_64 (by decide) ?_
                refine j_norm (lv' := [(0, .ref h0), (1, .ref g0), (2, .int (iI best)), (3, .int (iI p)), (4, .int (iI (bits + rw1))), (5, .int (iI (j + 1)))]) (st' := []) (ws' := [(h0, oX6 hO hU hK hX n o fin), (hO, aL x.g 240 O1), (hU, aI x.g 16 U1), (hK, aI x.g 16 K3), (hX, aI x.g 16 X3), (g0, oX8 gk gx kd ws bi fp), (gk, aI x.g 16 fk), (gx, aI x.g 16 fx)]) [2, 3, 4, 5, 1, 0] [0, 1, 2, 3, 4, 5, 6, 7] rfl rfl (by decide) rfl ?_
                exact ih17 (bits + rw1) (j + 1) K3 X3 (by have z := pS_of hgp ⟨hk1, hjp⟩ hcnt hgi.1.1 h55.1 h55.2.1; exact ⟨by omega, by omega, psum_next hk1 hk3 z.1, by omega, fun q h1 h2 => by (by_cases e : q = j); { rw [e]; exact z.2 }; { rw [(h55.2.2 q e).1, (h55.2.2 q e).2]; exact hk5 q h1 (by omega) }⟩) (by omega)
              refine j_if_ne (tgt := 49) jb dX6_chooseParts_32 (by decide) (by omega) (fun c_32 => ?_) (fun c_32 => ?_)
              · skip
                refine j_aload_n jb dX6_chooseParts_49 0 rfl ?_
                refine j_get jb f_X6_31 dX6_chooseParts_50 0 rfl rfl ?_
                refine j_iload_n jb dX6_chooseParts_53 3 rfl ?_
                refine j_ishr jb dX6_chooseParts_54 (by omega) (by omega) ?_
                refine j_norm (lv' := [(0, .ref h0), (1, .ref g0), (2, .int (iI best)), (3, .int (iI p)), (4, .int (iI bits)), (5, .int (iI j))]) (st' := [.int (iI (n / 2 ^ p.toNat)), .int (iI j), .ref h0, .int (iI bits)]) (ws' := [(h0, oX6 hO hU hK hX n o fin), (hO, aL x.g 240 O1), (hU, aI x.g 16 U1), (hK, aI x.g 16 K2), (hX, aI x.g 16 X2), (g0, oX8 gk gx kd ws bi fp), (gk, aI x.g 16 fk), (gx, aI x.g 16 fx)]) [0, 1, 2, 3, 4, 5] [0, 1, 2, 3, 4, 5, 6, 7] rfl rfl (by decide) rfl ?_
                exact J55 (n / 2 ^ p.toNat) (by unfold pln; first | (rw [if_pos c_32]; done) | (rw [if_neg c_32]; done))
              · skip
                refine j_aload_n jb dX6_chooseParts_35 0 rfl ?_
                refine j_get jb f_X6_31 dX6_chooseParts_36 0 rfl rfl ?_
                refine j_iload_n jb dX6_chooseParts_39 3 rfl ?_
                refine j_ishr jb dX6_chooseParts_40 (by omega) (by omega) ?_
                refine j_aload_n jb dX6_chooseParts_41 0 rfl ?_
                refine j_get jb f_X6_37 dX6_chooseParts_42 0 rfl rfl ?_
                refine j_isub jb dX6_chooseParts_45 ?_
                refine j_goto (tgt := 55) jb dX6_chooseParts_46 (by decide) ?_
                refine j_norm (lv' := [(0, .ref h0), (1, .ref g0), (2, .int (iI best)), (3, .int (iI p)), (4, .int (iI bits)), (5, .int (iI j))]) (st' := [.int (iI ((n / 2 ^ p.toNat) - o)), .int (iI j), .ref h0, .int (iI bits)]) (ws' := [(h0, oX6 hO hU hK hX n o fin), (hO, aL x.g 240 O1), (hU, aI x.g 16 U1), (hK, aI x.g 16 K2), (hX, aI x.g 16 X2), (g0, oX8 gk gx kd ws bi fp), (gk, aI x.g 16 fk), (gx, aI x.g 16 fx)]) [0, 1, 2, 3, 4, 5] [0, 1, 2, 3, 4, 5, 6, 7] rfl rfl (by decide) rfl ?_
                exact J55 ((n / 2 ^ p.toNat) - o) (by unfold pln; first | (rw [if_pos c_32]; done) | (rw [if_neg c_32]; done))
        refine j_norm (lv' := [(0, .ref h0), (1, .ref g0), (2, .int (iI best)), (3, .int (iI p)), (4, .int (iI 3)), (5, .int (iI 0))]) (st' := []) (ws' := [(h0, oX6 hO hU hK hX n o fin), (hO, aL x.g 240 O1), (hU, aI x.g 16 U1), (hK, aI x.g 16 K1), (hX, aI x.g 16 X1), (g0, oX8 gk gx kd ws bi fp), (gk, aI x.g 16 fk), (gx, aI x.g 16 fx)]) [2, 3, 4, 5, 1, 0] [0, 1, 2, 3, 4, 5, 6, 7] rfl rfl (by decide) rfl ?_
        exact L17 _ 3 0 K1 X1 ⟨by decide, by omega, rfl, by decide, fun q h1 h2 => by omega⟩ (Nat.lt_succ_self _)
  refine j_norm (lv' := [(0, .ref h0), (1, .ref g0), (2, .int (iI (-1))), (3, .int (iI fin))]) (st' := []) (ws' := [(h0, oX6 hO hU hK hX n o fin), (hO, aL x.g 240 On), (hU, aI x.g 16 Un), (hK, aI x.g 16 K0), (hX, aI x.g 16 X0), (g0, oX8 gk gx kd ws bi p0), (gk, aI x.g 16 fk0), (gx, aI x.g 16 fx0)]) [2, 3, 1, 0] [0, 1, 2, 3, 4, 5, 6, 7] rfl rfl (by decide) rfl ?_
  exact L7 _ (-1) fin p0 On Un K0 X0 fk0 fx0 ⟨by omega, Int.le_refl _, fun _ => rfl, fun h => by omega, fun _ => hg⟩ (Nat.lt_succ_self _)

