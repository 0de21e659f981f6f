set_option maxHeartbeats 4000000 in
set_option maxRecDepth 100000 in
theorem C_X12_takeOut (l : Launch) (g : GG) (n0 my sm st yb pkr rt rk rx si gt va re ua mk rki rea rby : Nat) (th dp sz mo ms hpk hsh vn wd wa pkk pxx bp bi pl cd rn rch rtn rdp rsh : Int) (b : Int) (val : Int → Int) (hb : 1 ≤ b ∧ b ≤ 17) (hn : 1 ≤ vn ∧ vn ≤ 400) (hv : ∀ j, 0 ≤ j → j < vn → -65536 ≤ val j ∧ val j < 65536) : Ctr l g yX12_takeOut cX12_takeOut 4 none 0 0 0 0 [.ref n0, .int (iI b)] [(n0, oX12 th dp my sm st sz mo ms yb hpk pkr rt rk rx hsh si gt va vn wd wa re ua pkk pxx bp mk bi pl cd rn rch rtn rdp rki rea rby rsh), (va, aI g 400 val)] (fun vv ww => ∃ (wa2 wd2 : Int) (v2 : Int → Int), vv = none ∧ ww = [(n0, oX12 th dp my sm st sz mo ms yb hpk pkr rt rk rx hsh si gt va vn wd2 wa2 re ua pkk pxx bp mk bi pl cd rn rch rtn rdp rki rea rby rsh), (va, aI g 400 v2)] ∧ isW (orF val vn.toNat) b wa2 ∧ (0 ≤ wa2 ∧ wa2 ≤ 15 ∧ wa2 ≤ b - 1) ∧ wd2 = b - wa2 ∧ ∀ j, 0 ≤ j → j < vn → v2 j = val j / 2 ^ wa2.toNat) := by
  refine Ctr.of [(0, .ref n0), (1, .int (iI b))] (by decide) (Nat.le_of_ble_eq_true rfl) rfl ?_
  intro x hxl hxg jb jr hin
  subst hxl; subst hxg
  refine j_iconst jb dX12_takeOut_0 ?_
  refine j_istore_n (lv' := [(2, .int (iI 0)), (0, .ref n0), (1, .int (iI b))]) jb dX12_takeOut_1 rfl (by decide) rfl ?_
  refine j_iconst jb dX12_takeOut_2 ?_
  refine j_istore_n (lv' := [(3, .int (iI 0)), (2, .int (iI 0)), (0, .ref n0), (1, .int (iI b))]) jb dX12_takeOut_3 rfl (by decide) rfl ?_
  have L4 : ∀ (fu : Nat) (al i : Int), (0 ≤ i ∧ i ≤ vn ∧ al = orF val i.toNat ∧ (-65536 ≤ al ∧ al < 65536)) → (vn - i).toNat < fu → JW x 0 0 4 [(0, .ref n0), (1, .int (iI b)), (2, .int (iI al)), (3, .int (iI i))] [] [(n0, oX12 th dp my sm st sz mo ms yb hpk pkr rt rk rx hsh si gt va vn wd wa re ua pkk pxx bp mk bi pl cd rn rch rtn rdp rki rea rby rsh), (va, aI x.g 400 val)] := by
    intro fu
    induction fu with
    | zero => intro al i _ hm; exact absurd hm (by omega)
    | succ fu ih =>
      intro al i ⟨hi1, hi2, hi3, hi4⟩ hm4
      have ih4 := ih
      clear ih
      refine j_iload_n jb dX12_takeOut_4 3 rfl ?_
      refine j_aload_n jb dX12_takeOut_5 0 rfl ?_
      refine j_get jb f_X12_92 dX12_takeOut_6 0 rfl rfl ?_
      refine j_icmp_ge (tgt := 27) jb dX12_takeOut_9 (by decide) (by omega) (by omega) (fun c_9 => ?_) (fun c_9 => ?_)
      · skip
        refine j_aload_n jb dX12_takeOut_27 0 rfl ?_
        refine j_iconst jb dX12_takeOut_28 ?_
        refine j_put (ws' := [(n0, oX12 th dp my sm st sz mo ms yb hpk pkr rt rk rx hsh si gt va vn wd 0 re ua pkk pxx bp mk bi pl cd rn rch rtn rdp rki rea rby rsh), (va, aI x.g 400 val)]) jb f_X12_95 w_X12_20 rfl dX12_takeOut_29 0 rfl rfl rfl (Nat.le_of_ble_eq_true rfl) rfl ?_
        have L32 : ∀ (fu : Nat) (w : Int), (0 ≤ w ∧ w ≤ 15 ∧ w ≤ b - 1 ∧ al % 2 ^ w.toNat = 0 ∧ (al = 0 → w = 0)) → (15 - w).toNat < fu → JW x 0 0 32 [(0, .ref n0), (1, .int (iI b)), (2, .int (iI al))] [] [(n0, oX12 th dp my sm st sz mo ms yb hpk pkr rt rk rx hsh si gt va vn wd w re ua pkk pxx bp mk bi pl cd rn rch rtn rdp rki rea rby rsh), (va, aI x.g 400 val)] := by
          intro fu
          induction fu with
          | zero => intro w _ hm; exact absurd hm (by omega)
          | succ fu ih =>
            intro w ⟨hw1, hw2, hw3, hw4, hw5⟩ hm32
            have ih32 := ih
            clear ih
            refine j_iload_n jb dX12_takeOut_32 2 rfl ?_
            have J79 : isW al b w → JW x 0 0 79 [(0, .ref n0), (1, .int (iI b)), (2, .int (iI al))] [] [(n0, oX12 th dp my sm st sz mo ms yb hpk pkr rt rk rx hsh si gt va vn wd w re ua pkk pxx bp mk bi pl cd rn rch rtn rdp rki rea rby rsh), (va, aI x.g 400 val)] := by
              intro  hwo
              refine j_iconst jb dX12_takeOut_79 ?_
              refine j_istore_n (lv' := [(3, .int (iI 0)), (0, .ref n0), (1, .int (iI b)), (2, .int (iI al))]) jb dX12_takeOut_80 rfl (by decide) rfl ?_
              have L81 : ∀ (fu : Nat) (i2 : Int) (v1 : Int → Int), (0 ≤ i2 ∧ i2 ≤ vn ∧ (∀ j, 0 ≤ j → j < i2 → v1 j = val j / 2 ^ w.toNat) ∧ (∀ j, i2 ≤ j → v1 j = val j)) → (vn - i2).toNat < fu → JW x 0 0 81 [(0, .ref n0), (1, .int (iI b)), (3, .int (iI i2))] [] [(n0, oX12 th dp my sm st sz mo ms yb hpk pkr rt rk rx hsh si gt va vn wd w re ua pkk pxx bp mk bi pl cd rn rch rtn rdp rki rea rby rsh), (va, aI x.g 400 v1)] := by
                intro fu
                induction fu with
                | zero => intro i2 v1 _ hm; exact absurd hm (by omega)
                | succ fu ih =>
                  intro i2 v1 ⟨hk1, hk2, hk3, hk4⟩ hm81
                  have ih81 := ih
                  clear ih
                  refine j_iload_n jb dX12_takeOut_81 2 rfl ?_
                  refine j_aload_n jb dX12_takeOut_82 0 rfl ?_
                  refine j_get jb f_X12_92 dX12_takeOut_83 0 rfl rfl ?_
                  refine j_icmp_ge (tgt := 108) jb dX12_takeOut_86 (by decide) (by omega) (by omega) (fun c_86 => ?_) (fun c_86 => ?_)
                  · skip
                    refine j_aload_n jb dX12_takeOut_108 0 rfl ?_
                    refine j_iload_n jb dX12_takeOut_109 1 rfl ?_
                    refine j_aload_n jb dX12_takeOut_110 0 rfl ?_
                    refine j_get jb f_X12_95 dX12_takeOut_111 0 rfl rfl ?_
                    refine j_isub jb dX12_takeOut_114 ?_
                    refine j_put (ws' := [(n0, oX12 th dp my sm st sz mo ms yb hpk pkr rt rk rx hsh si gt va vn (b - w) w re ua pkk pxx bp mk bi pl cd rn rch rtn rdp rki rea rby rsh), (va, aI x.g 400 v1)]) jb f_X12_98 w_X12_19 rfl dX12_takeOut_115 0 rfl rfl rfl (Nat.le_of_ble_eq_true rfl) rfl ?_
                    refine j_norm (lv' := []) (st' := []) (ws' := [(n0, oX12 th dp my sm st sz mo ms yb hpk pkr rt rk rx hsh si gt va vn (b - w) w re ua pkk pxx bp mk bi pl cd rn rch rtn rdp rki rea rby rsh), (va, aI x.g 400 v1)]) [] [0, 1] rfl rfl (by decide) rfl ?_
                    exact j_vret jb jr dX12_takeOut_118 ⟨_, _, _, rfl, rfl, ⟨by rw [show vn = i by omega, ← hi3]; exact hwo, ⟨hw1, hw2, hw3⟩, rfl, fun j a d => hk3 j a (by omega)⟩⟩
                  · skip
                    refine j_aload_n jb dX12_takeOut_89 0 rfl ?_
                    refine j_get jb f_X12_47 dX12_takeOut_90 0 rfl rfl ?_
                    refine j_iload_n jb dX12_takeOut_93 2 rfl ?_
                    refine j_dup2 jb dX12_takeOut_94 rfl rfl ?_
                    refine j_iald jb dX12_takeOut_95 1 rfl (by omega) (by decide) ?_
                    refine j_aload_n jb dX12_takeOut_96 0 rfl ?_
                    refine j_get jb f_X12_95 dX12_takeOut_97 0 rfl rfl ?_
                    refine j_ishr jb dX12_takeOut_100 (by rw [hk4 i2 (Int.le_refl _)]; have := hv i2 hk1 (by omega); omega) (by omega) ?_
                    refine j_iast (ws' := [(n0, oX12 th dp my sm st sz mo ms yb hpk pkr rt rk rx hsh si gt va vn wd w re ua pkk pxx bp mk bi pl cd rn rch rtn rdp rki rea rby rsh), (va, aI x.g 400 (zup v1 i2 ((v1 i2) / 2 ^ w.toNat)))]) jb dX12_takeOut_101 1 rfl (by omega) (by decide) rfl ?_
                    refine j_iinc (lv' := [(3, .int (iI (i2 + 1))), (0, .ref n0), (1, .int (iI b))]) jb dX12_takeOut_102 2 rfl (by decide) rfl ?_
                    refine j_goto (tgt := 81) jb dX12_takeOut_105 (by decide) ?_
                    refine j_norm (lv' := [(0, .ref n0), (1, .int (iI b)), (3, .int (iI (i2 + 1)))]) (st' := []) (ws' := [(n0, oX12 th dp my sm st sz mo ms yb hpk pkr rt rk rx hsh si gt va vn wd w re ua pkk pxx bp mk bi pl cd rn rch rtn rdp rki rea rby rsh), (va, aI x.g 400 (zup v1 i2 ((v1 i2) / 2 ^ w.toNat)))]) [1, 2, 0] [0, 1] rfl rfl (by decide) rfl ?_
                    exact ih81 (i2 + 1) (zup v1 i2 ((v1 i2) / 2 ^ w.toNat)) ⟨by omega, by omega, fun j a b => by (by_cases e : j = i2); { rw [e, zup_s, hk4 i2 (Int.le_refl _)] }; { rw [zup_n e]; exact hk3 j a (by omega) }, fun j a => by rw [zup_n (by omega)]; exact hk4 j (by omega)⟩ (by omega)
              refine j_norm (lv' := [(0, .ref n0), (1, .int (iI b)), (3, .int (iI 0))]) (st' := []) (ws' := [(n0, oX12 th dp my sm st sz mo ms yb hpk pkr rt rk rx hsh si gt va vn wd w re ua pkk pxx bp mk bi pl cd rn rch rtn rdp rki rea rby rsh), (va, aI x.g 400 val)]) [1, 2, 0] [0, 1] rfl rfl (by decide) rfl ?_
              exact L81 _ 0 val ⟨by decide, by omega, fun j a b => by omega, fun _ _ => rfl⟩ (Nat.lt_succ_self _)
            refine j_if_eq (tgt := 79) jb dX12_takeOut_33 (by decide) (by omega) (fun c_33 => ?_) (fun c_33 => ?_)
            · skip
              refine j_norm (lv' := [(0, .ref n0), (1, .int (iI b)), (2, .int (iI al))]) (st' := []) (ws' := [(n0, oX12 th dp my sm st sz mo ms yb hpk pkr rt rk rx hsh si gt va vn wd w re ua pkk pxx bp mk bi pl cd rn rch rtn rdp rki rea rby rsh), (va, aI x.g 400 val)]) [0, 1, 2] [0, 1] rfl rfl (by decide) rfl ?_
              exact J79  (isW_out ⟨hw1, hw2, hw3⟩ hw4 hw5 (by omega))
            · skip
              refine j_aload_n jb dX12_takeOut_36 0 rfl ?_
              refine j_get jb f_X12_95 dX12_takeOut_37 0 rfl rfl ?_
              refine j_iload_n jb dX12_takeOut_40 1 rfl ?_
              refine j_iconst jb dX12_takeOut_41 ?_
              refine j_isub jb dX12_takeOut_42 ?_
              refine j_icmp_ge (tgt := 79) jb dX12_takeOut_43 (by decide) (by omega) (by omega) (fun c_43 => ?_) (fun c_43 => ?_)
              · skip
                refine j_norm (lv' := [(0, .ref n0), (1, .int (iI b)), (2, .int (iI al))]) (st' := []) (ws' := [(n0, oX12 th dp my sm st sz mo ms yb hpk pkr rt rk rx hsh si gt va vn wd w re ua pkk pxx bp mk bi pl cd rn rch rtn rdp rki rea rby rsh), (va, aI x.g 400 val)]) [0, 1, 2] [0, 1] rfl rfl (by decide) rfl ?_
                exact J79  (isW_out ⟨hw1, hw2, hw3⟩ hw4 hw5 (by omega))
              · skip
                refine j_aload_n jb dX12_takeOut_46 0 rfl ?_
                refine j_get jb f_X12_95 dX12_takeOut_47 0 rfl rfl ?_
                refine j_bipush jb dX12_takeOut_50 (by decide) ?_
                refine j_icmp_ge (tgt := 79) jb dX12_takeOut_52 (by decide) (by omega) (by omega) (fun c_52 => ?_) (fun c_52 => ?_)
                · skip
                  refine j_norm (lv' := [(0, .ref n0), (1, .int (iI b)), (2, .int (iI al))]) (st' := []) (ws' := [(n0, oX12 th dp my sm st sz mo ms yb hpk pkr rt rk rx hsh si gt va vn wd w re ua pkk pxx bp mk bi pl cd rn rch rtn rdp rki rea rby rsh), (va, aI x.g 400 val)]) [0, 1, 2] [0, 1] rfl rfl (by decide) rfl ?_
                  exact J79  (isW_out ⟨hw1, hw2, hw3⟩ hw4 hw5 (by omega))
                · skip
                  refine j_iload_n jb dX12_takeOut_55 2 rfl ?_
                  refine j_aload_n jb dX12_takeOut_56 0 rfl ?_
                  refine j_get jb f_X12_95 dX12_takeOut_57 0 rfl rfl ?_
                  refine j_ishr jb dX12_takeOut_60 (by omega) (by omega) ?_
                  refine j_iconst jb dX12_takeOut_61 ?_
                  refine j_iand jb dX12_takeOut_62 ?_
                  refine j_topi (al / 2 ^ w.toNat % 2) (zAnd_1 _) ?_
                  refine j_if_ne (tgt := 79) jb dX12_takeOut_63 (by decide) (by omega) (fun c_63 => ?_) (fun c_63 => ?_)
                  · skip
                    refine j_norm (lv' := [(0, .ref n0), (1, .int (iI b)), (2, .int (iI al))]) (st' := []) (ws' := [(n0, oX12 th dp my sm st sz mo ms yb hpk pkr rt rk rx hsh si gt va vn wd w re ua pkk pxx bp mk bi pl cd rn rch rtn rdp rki rea rby rsh), (va, aI x.g 400 val)]) [0, 1, 2] [0, 1] rfl rfl (by decide) rfl ?_
                    exact J79  (isW_out ⟨hw1, hw2, hw3⟩ hw4 hw5 (by omega))
                  · skip
                    refine j_aload_n jb dX12_takeOut_66 0 rfl ?_
                    refine j_dup jb dX12_takeOut_67 rfl ?_
                    refine j_get jb f_X12_95 dX12_takeOut_68 0 rfl rfl ?_
                    refine j_iconst jb dX12_takeOut_71 ?_
                    refine j_iadd jb dX12_takeOut_72 ?_
                    refine j_put (ws' := [(n0, oX12 th dp my sm st sz mo ms yb hpk pkr rt rk rx hsh si gt va vn wd (w + 1) re ua pkk pxx bp mk bi pl cd rn rch rtn rdp rki rea rby rsh), (va, aI x.g 400 val)]) jb f_X12_95 w_X12_20 rfl dX12_takeOut_73 0 rfl rfl rfl (Nat.le_of_ble_eq_true rfl) rfl ?_
                    refine j_goto (tgt := 32) jb dX12_takeOut_76 (by decide) ?_
                    refine j_norm (lv' := [(0, .ref n0), (1, .int (iI b)), (2, .int (iI al))]) (st' := []) (ws' := [(n0, oX12 th dp my sm st sz mo ms yb hpk pkr rt rk rx hsh si gt va vn wd (w + 1) re ua pkk pxx bp mk bi pl cd rn rch rtn rdp rki rea rby rsh), (va, aI x.g 400 val)]) [0, 1, 2] [0, 1] rfl rfl (by decide) rfl ?_
                    exact ih32 (w + 1) ⟨by omega, by omega, by omega, mod_next hw1 hw4 c_63, fun q => absurd q c_33⟩ (by omega)
        refine j_norm (lv' := [(0, .ref n0), (1, .int (iI b)), (2, .int (iI al))]) (st' := []) (ws' := [(n0, oX12 th dp my sm st sz mo ms yb hpk pkr rt rk rx hsh si gt va vn wd 0 re ua pkk pxx bp mk bi pl cd rn rch rtn rdp rki rea rby rsh), (va, aI x.g 400 val)]) [0, 1, 2] [0, 1] rfl rfl (by decide) rfl ?_
        exact L32 _ 0 ⟨by decide, by decide, by omega, Int.emod_one _, fun _ => rfl⟩ (Nat.lt_succ_self _)
      · skip
        refine j_iload_n jb dX12_takeOut_12 2 rfl ?_
        refine j_aload_n jb dX12_takeOut_13 0 rfl ?_
        refine j_get jb f_X12_47 dX12_takeOut_14 0 rfl rfl ?_
        refine j_iload_n jb dX12_takeOut_17 3 rfl ?_
        refine j_iald jb dX12_takeOut_18 1 rfl (by omega) (by decide) ?_
        refine j_ior jb dX12_takeOut_19 ?_
        refine j_istore_n (lv' := [(2, .int (iI (zOr al (val i)))), (0, .ref n0), (1, .int (iI b)), (3, .int (iI i))]) jb dX12_takeOut_20 rfl (by decide) rfl ?_
        refine j_iinc (lv' := [(3, .int (iI (i + 1))), (2, .int (iI (zOr al (val i)))), (0, .ref n0), (1, .int (iI b))]) jb dX12_takeOut_21 3 rfl (by decide) rfl ?_
        refine j_goto (tgt := 4) jb dX12_takeOut_24 (by decide) ?_
        refine j_norm (lv' := [(0, .ref n0), (1, .int (iI b)), (2, .int (iI (zOr al (val i)))), (3, .int (iI (i + 1)))]) (st' := []) (ws' := [(n0, oX12 th dp my sm st sz mo ms yb hpk pkr rt rk rx hsh si gt va vn wd wa re ua pkk pxx bp mk bi pl cd rn rch rtn rdp rki rea rby rsh), (va, aI x.g 400 val)]) [2, 3, 1, 0] [0, 1] rfl rfl (by decide) rfl ?_
        exact ih4 (zOr al (val i)) (i + 1) ⟨by omega, by omega, orF_next hi1 hi3, zOr_17 hi4 (hv i hi1 (by omega))⟩ (by omega)
  refine j_norm (lv' := [(0, .ref n0), (1, .int (iI b)), (2, .int (iI 0)), (3, .int (iI 0))]) (st' := []) (ws' := [(n0, oX12 th dp my sm st sz mo ms yb hpk pkr rt rk rx hsh si gt va vn wd wa re ua pkk pxx bp mk bi pl cd rn rch rtn rdp rki rea rby rsh), (va, aI x.g 400 val)]) [2, 3, 1, 0] [0, 1] rfl rfl (by decide) rfl ?_
  exact L4 _ 0 0 ⟨by decide, by omega, rfl, by decide⟩ (Nat.lt_succ_self _)

set_option maxHeartbeats 4000000 in
set_option maxRecDepth 100000 in
theorem C_X12_fixed (l : Launch) (g : GG) (o za zb zc zd : Int) (ho : 0 ≤ o ∧ o ≤ 4) : Ctr l g yX12_fixed cX12_fixed 9 (some .long) 0 0 0 0 [.int (iI o), .long (lI za), .long (lI zb), .long (lI zc), .long (lI zd)] [] (fun vv ww => ∃ (r : Int), vv = some (.long (lI r)) ∧ ww = [] ∧ r = fx o za zb zc zd) := by
  refine Ctr.of [(0, .int (iI o)), (1, .long (lI za)), (3, .long (lI zb)), (5, .long (lI zc)), (7, .long (lI zd))] (by decide) (Nat.le_of_ble_eq_true rfl) rfl ?_
  intro x hxl hxg jb jr hin
  subst hxl; subst hxg
  refine j_iload_n jb dX12_fixed_0 0 rfl ?_
  refine j_if_ne (tgt := 8) jb dX12_fixed_1 (by decide) (by omega) (fun c_1 => ?_) (fun c_1 => ?_)
  · skip
    refine j_iload_n jb dX12_fixed_8 0 rfl ?_
    refine j_iconst jb dX12_fixed_9 ?_
    refine j_icmp_ne (tgt := 17) jb dX12_fixed_10 (by decide) (by omega) (by omega) (fun c_10 => ?_) (fun c_10 => ?_)
    · skip
      refine j_iload_n jb dX12_fixed_17 0 rfl ?_
      refine j_iconst jb dX12_fixed_18 ?_
      refine j_icmp_ne (tgt := 32) jb dX12_fixed_19 (by decide) (by omega) (by omega) (fun c_19 => ?_) (fun c_19 => ?_)
      · skip
        refine j_iload_n jb dX12_fixed_32 0 rfl ?_
        refine j_iconst jb dX12_fixed_33 ?_
        refine j_icmp_ne (tgt := 54) jb dX12_fixed_34 (by decide) (by omega) (by omega) (fun c_34 => ?_) (fun c_34 => ?_)
        · skip
          refine j_ldc2 (z := 4) jb q_X12_82 rfl dX12_fixed_54 ?_
          refine j_lload_n jb dX12_fixed_57 1 rfl ?_
          refine j_lmul jb dX12_fixed_58 ?_
          refine j_ldc2 (z := 6) jb q_X12_105 rfl dX12_fixed_59 ?_
          refine j_lload_n jb dX12_fixed_62 2 rfl ?_
          refine j_lmul jb dX12_fixed_63 ?_
          refine j_lsub jb dX12_fixed_64 ?_
          refine j_ldc2 (z := 4) jb q_X12_82 rfl dX12_fixed_65 ?_
          refine j_lload jb dX12_fixed_68 3 rfl ?_
          refine j_lmul jb dX12_fixed_70 ?_
          refine j_ladd jb dX12_fixed_71 ?_
          refine j_lload jb dX12_fixed_72 4 rfl ?_
          refine j_lsub jb dX12_fixed_74 ?_
          refine j_norm (lv' := []) (st' := [.long (lI ((((4 * za) - (6 * zb)) + (4 * zc)) - zd))]) (ws' := []) [] [] rfl rfl (by decide) rfl ?_
          exact j_lret jb jr dX12_fixed_75 ⟨_, rfl, rfl, (by unfold fx; first | (rw [if_pos (by omega)]; done) | (rw [if_neg (by omega), if_pos (by omega)]; done) | (rw [if_neg (by omega), if_neg (by omega), if_pos (by omega)]; done) | (rw [if_neg (by omega), if_neg (by omega), if_neg (by omega), if_pos (by omega)]; done) | (rw [if_neg (by omega), if_neg (by omega), if_neg (by omega), if_neg (by omega)]; done))⟩
        · skip
          refine j_ldc2 (z := 3) jb q_X12_103 rfl dX12_fixed_37 ?_
          refine j_lload_n jb dX12_fixed_40 1 rfl ?_
          refine j_lmul jb dX12_fixed_41 ?_
          refine j_ldc2 (z := 3) jb q_X12_103 rfl dX12_fixed_42 ?_
          refine j_lload_n jb dX12_fixed_45 2 rfl ?_
          refine j_lmul jb dX12_fixed_46 ?_
          refine j_lsub jb dX12_fixed_47 ?_
          refine j_lload jb dX12_fixed_48 3 rfl ?_
          refine j_ladd jb dX12_fixed_50 ?_
          refine j_goto (tgt := 75) jb dX12_fixed_51 (by decide) ?_
          refine j_norm (lv' := []) (st' := [.long (lI (((3 * za) - (3 * zb)) + zc))]) (ws' := []) [] [] rfl rfl (by decide) rfl ?_
          exact j_lret jb jr dX12_fixed_75 ⟨_, rfl, rfl, (by unfold fx; first | (rw [if_pos (by omega)]; done) | (rw [if_neg (by omega), if_pos (by omega)]; done) | (rw [if_neg (by omega), if_neg (by omega), if_pos (by omega)]; done) | (rw [if_neg (by omega), if_neg (by omega), if_neg (by omega), if_pos (by omega)]; done) | (rw [if_neg (by omega), if_neg (by omega), if_neg (by omega), if_neg (by omega)]; done))⟩
      · skip
        refine j_ldc2 (z := 2) jb q_X12_101 rfl dX12_fixed_22 ?_
        refine j_lload_n jb dX12_fixed_25 1 rfl ?_
        refine j_lmul jb dX12_fixed_26 ?_
        refine j_lload_n jb dX12_fixed_27 2 rfl ?_
        refine j_lsub jb dX12_fixed_28 ?_
        refine j_goto (tgt := 75) jb dX12_fixed_29 (by decide) ?_
        refine j_norm (lv' := []) (st' := [.long (lI ((2 * za) - zb))]) (ws' := []) [] [] rfl rfl (by decide) rfl ?_
        exact j_lret jb jr dX12_fixed_75 ⟨_, rfl, rfl, (by unfold fx; first | (rw [if_pos (by omega)]; done) | (rw [if_neg (by omega), if_pos (by omega)]; done) | (rw [if_neg (by omega), if_neg (by omega), if_pos (by omega)]; done) | (rw [if_neg (by omega), if_neg (by omega), if_neg (by omega), if_pos (by omega)]; done) | (rw [if_neg (by omega), if_neg (by omega), if_neg (by omega), if_neg (by omega)]; done))⟩
    · skip
      refine j_lload_n jb dX12_fixed_13 1 rfl ?_
      refine j_goto (tgt := 75) jb dX12_fixed_14 (by decide) ?_
      refine j_norm (lv' := []) (st' := [.long (lI za)]) (ws' := []) [] [] rfl rfl (by decide) rfl ?_
      exact j_lret jb jr dX12_fixed_75 ⟨_, rfl, rfl, (by unfold fx; first | (rw [if_pos (by omega)]; done) | (rw [if_neg (by omega), if_pos (by omega)]; done) | (rw [if_neg (by omega), if_neg (by omega), if_pos (by omega)]; done) | (rw [if_neg (by omega), if_neg (by omega), if_neg (by omega), if_pos (by omega)]; done) | (rw [if_neg (by omega), if_neg (by omega), if_neg (by omega), if_neg (by omega)]; done))⟩
  · skip
    refine j_lconst (z := 0) jb dX12_fixed_4 rfl ?_
    refine j_goto (tgt := 75) jb dX12_fixed_5 (by decide) ?_
    refine j_norm (lv' := []) (st' := [.long (lI 0)]) (ws' := []) [] [] rfl rfl (by decide) rfl ?_
    exact j_lret jb jr dX12_fixed_75 ⟨_, rfl, rfl, (by unfold fx; first | (rw [if_pos (by omega)]; done) | (rw [if_neg (by omega), if_pos (by omega)]; done) | (rw [if_neg (by omega), if_neg (by omega), if_pos (by omega)]; done) | (rw [if_neg (by omega), if_neg (by omega), if_neg (by omega), if_pos (by omega)]; done) | (rw [if_neg (by omega), if_neg (by omega), if_neg (by omega), if_neg (by omega)]; done))⟩

set_option maxHeartbeats 4000000 in
set_option maxRecDepth 100000 in
theorem C_X12_before (l : Launch) (g : GG) (n0 my sm st yb pkr rt rk rx si gt va re ua mk rki rea rby : Nat) (th dp sz mo ms hpk hsh vn wd wa pkk pxx bp bi pl cd rn rch rtn rdp rsh : Int) (i j : Int) (val : Int → Int) (hi : 0 ≤ i ∧ i < 400) (hj : 1 ≤ j ∧ j ≤ 4) (hv : vOk val i) : Ctr l g yX12_before cX12_before 3 (some .long) 0 0 0 0 [.ref n0, .int (iI i), .int (iI j)] [(n0, oX12 th dp my sm st sz mo ms yb hpk pkr rt rk rx hsh si gt va vn wd wa re ua pkk pxx bp mk bi pl cd rn rch rtn rdp rki rea rby rsh), (va, aI g 400 val)] (fun vv ww => ∃ (r : Int), vv = some (.long (lI r)) ∧ ww = [(n0, oX12 th dp my sm st sz mo ms yb hpk pkr rt rk rx hsh si gt va vn wd wa re ua pkk pxx bp mk bi pl cd rn rch rtn rdp rki rea rby rsh), (va, aI g 400 val)] ∧ r = bef val i j) := by
  refine Ctr.of [(0, .ref n0), (1, .int (iI i)), (2, .int (iI j))] (by decide) (Nat.le_of_ble_eq_true rfl) rfl ?_
  intro x hxl hxg jb jr hin
  subst hxl; subst hxg
  refine j_iload_n jb dX12_before_0 1 rfl ?_
  refine j_iload_n jb dX12_before_1 2 rfl ?_
  refine j_icmp_lt (tgt := 17) jb dX12_before_2 (by decide) (by omega) (by omega) (fun c_2 => ?_) (fun c_2 => ?_)
  · skip
    refine j_lconst (z := 0) jb dX12_before_17 rfl ?_
    refine j_norm (lv' := []) (st' := [.long (lI 0)]) (ws' := [(n0, oX12 th dp my sm st sz mo ms yb hpk pkr rt rk rx hsh si gt va vn wd wa re ua pkk pxx bp mk bi pl cd rn rch rtn rdp rki rea rby rsh), (va, aI x.g 400 val)]) [] [0, 1] rfl rfl (by decide) rfl ?_
    exact j_lret jb jr dX12_before_18 ⟨_, rfl, rfl, (by unfold bef; first | (rw [if_pos (by omega)]; done) | (rw [if_neg (by omega)]; done))⟩
  · skip
    refine j_aload_n jb dX12_before_5 0 rfl ?_
    refine j_get jb f_X12_47 dX12_before_6 0 rfl rfl ?_
    refine j_iload_n jb dX12_before_9 1 rfl ?_
    refine j_iload_n jb dX12_before_10 2 rfl ?_
    refine j_isub jb dX12_before_11 ?_
    refine j_iald jb dX12_before_12 1 rfl (by omega) (by decide) ?_
    refine j_i2l jb dX12_before_13 (by have := hv (i - j) (by omega) (by omega); omega) ?_
    refine j_goto (tgt := 18) jb dX12_before_14 (by decide) ?_
    refine j_norm (lv' := []) (st' := [.long (lI (val (i - j)))]) (ws' := [(n0, oX12 th dp my sm st sz mo ms yb hpk pkr rt rk rx hsh si gt va vn wd wa re ua pkk pxx bp mk bi pl cd rn rch rtn rdp rki rea rby rsh), (va, aI x.g 400 val)]) [] [0, 1] rfl rfl (by decide) rfl ?_
    exact j_lret jb jr dX12_before_18 ⟨_, rfl, rfl, (by unfold bef; first | (rw [if_pos (by omega)]; done) | (rw [if_neg (by omega)]; done))⟩

set_option maxHeartbeats 4000000 in
set_option maxRecDepth 100000 in
theorem C_X12_foretold (l : Launch) (g : GG) (n0 my sm st yb pkr rt rk rx si gt va re ua mk rki rea rby : Nat) (th dp sz mo ms hpk hsh vn wd wa pkk pxx bp bi pl cd rn rch rtn rdp rsh : Int) (kind i : Int) (val oc : Int → Int) (hk : 2 ≤ kind ∧ kind ≤ 7) (hi : 0 ≤ i ∧ i < 400) (ho : (kind = 7 → mo ≤ i) ∧ (kind < 7 → kind - 2 ≤ i)) (hv : vOk val i) (hoo : 0 ≤ mo ∧ mo ≤ 4) (hos : 0 ≤ ms ∧ ms ≤ 15) (hcf : cfOk oc) : Ctr l g yX12_foretold cX12_foretold 6 (some .long) 1 30 0 0 [.ref n0, .int (iI kind), .int (iI i)] [(n0, oX12 th dp my sm st sz mo ms yb hpk pkr rt rk rx hsh si gt va vn wd wa re ua pkk pxx bp mk bi pl cd rn rch rtn rdp rki rea rby rsh), (va, aI g 400 val), (yb, aI g 4 oc)] (fun vv ww => ∃ (r : Int), vv = some (.long (lI r)) ∧ ww = [(n0, oX12 th dp my sm st sz mo ms yb hpk pkr rt rk rx hsh si gt va vn wd wa re ua pkk pxx bp mk bi pl cd rn rch rtn rdp rki rea rby rsh), (va, aI g 400 val), (yb, aI g 4 oc)] ∧ r = kF val mo ms oc kind i) := by
  refine Ctr.of [(0, .ref n0), (1, .int (iI kind)), (2, .int (iI i))] (by decide) (Nat.le_of_ble_eq_true rfl) rfl ?_
  intro x hxl hxg jb jr hin
  subst hxl; subst hxg
  refine j_iload_n jb dX12_foretold_0 1 rfl ?_
  refine j_bipush jb dX12_foretold_1 (by decide) ?_
  refine j_icmp_ge (tgt := 37) jb dX12_foretold_3 (by decide) (by omega) (by omega) (fun c_3 => ?_) (fun c_3 => ?_)
  · skip
    refine j_lconst (z := 0) jb dX12_foretold_37 rfl ?_
    refine j_lstore_n (lv' := [(3, .long (lI 0)), (0, .ref n0), (1, .int (iI kind)), (2, .int (iI i))]) jb dX12_foretold_38 rfl (by decide) rfl ?_
    refine j_iconst jb dX12_foretold_39 ?_
    refine j_istore (lv' := [(5, .int (iI 0)), (3, .long (lI 0)), (0, .ref n0), (1, .int (iI kind)), (2, .int (iI i))]) jb dX12_foretold_40 (by decide) rfl ?_
    have L42 : ∀ (fu : Nat) (s j : Int), (0 ≤ j ∧ j ≤ mo ∧ s = fsum oc val i j.toNat) → (mo - j).toNat < fu → JW x 0 0 42 [(0, .ref n0), (1, .int (iI kind)), (2, .int (iI i)), (3, .long (lI s)), (5, .int (iI j))] [] [(n0, oX12 th dp my sm st sz mo ms yb hpk pkr rt rk rx hsh si gt va vn wd wa re ua pkk pxx bp mk bi pl cd rn rch rtn rdp rki rea rby rsh), (va, aI x.g 400 val), (yb, aI x.g 4 oc)] := by
      intro fu
      induction fu with
      | zero => intro s j _ hm; exact absurd hm (by omega)
      | succ fu ih =>
        intro s j ⟨hj1, hj2, hj3⟩ hm42
        have ih42 := ih
        clear ih
        refine j_iload jb dX12_foretold_42 4 rfl ?_
        refine j_aload_n jb dX12_foretold_44 0 rfl ?_
        refine j_get jb f_X12_86 dX12_foretold_45 0 rfl rfl ?_
        refine j_icmp_ge (tgt := 78) jb dX12_foretold_48 (by decide) (by omega) (by omega) (fun c_48 => ?_) (fun c_48 => ?_)
        · skip
          refine j_lload_n jb dX12_foretold_78 3 rfl ?_
          refine j_aload_n jb dX12_foretold_79 0 rfl ?_
          refine j_get jb f_X12_89 dX12_foretold_80 0 rfl rfl ?_
          refine j_lshr jb dX12_foretold_83 (by have z := fsum_in (n := j.toNat) (by omega) (by omega) hcf hv; rw [← hj3] at z; omega) (by omega) ?_
          refine j_norm (lv' := []) (st' := [.long (lI (s / 2 ^ ms.toNat))]) (ws' := [(n0, oX12 th dp my sm st sz mo ms yb hpk pkr rt rk rx hsh si gt va vn wd wa re ua pkk pxx bp mk bi pl cd rn rch rtn rdp rki rea rby rsh), (va, aI x.g 400 val), (yb, aI x.g 4 oc)]) [] [0, 1, 2] rfl rfl (by decide) rfl ?_
          exact j_lret jb jr dX12_foretold_84 ⟨_, rfl, rfl, (by unfold kF ft; rw [if_pos (by omega), show mo = j by omega, ← hj3])⟩
        · skip
          refine j_lload_n jb dX12_foretold_51 3 rfl ?_
          refine j_aload_n jb dX12_foretold_52 0 rfl ?_
          refine j_get jb f_X12_26 dX12_foretold_53 0 rfl rfl ?_
          refine j_iload jb dX12_foretold_56 4 rfl ?_
          refine j_iald jb dX12_foretold_58 2 rfl (by omega) (by decide) ?_
          refine j_i2l jb dX12_foretold_59 (by have := hcf j hj1 (by omega); omega) ?_
          refine j_aload_n jb dX12_foretold_60 0 rfl ?_
          refine j_iload_n jb dX12_foretold_61 2 rfl ?_
          refine j_iload jb dX12_foretold_62 4 rfl ?_
          refine j_iconst jb dX12_foretold_64 ?_
          refine j_iadd jb dX12_foretold_65 ?_
          refine j_callV (wr := [(yb, aI x.g 4 oc)]) jb k_X12_before i_X12_before s_X12_before l_X12_107 (C_X12_before x.l x.g n0 my sm st yb pkr rt rk rx si gt va re ua mk rki rea rby th dp sz mo ms hpk hsh vn wd wa pkk pxx bp bi pl cd rn rch rtn rdp rsh i (j + 1) val (by omega) (by omega) hv) 0 14 rfl rfl rfl [0, 1] [2] (by decide) rfl rfl (by decide) (by decide) rfl rfl (Nat.le_of_ble_eq_true rfl) (by decide) dX12_foretold_66 (fun v w hp => ?_)
          obtain ⟨r_66, rfl, rfl, h_66⟩ := hp
          refine j_norm (lv' := [(0, .ref n0), (1, .int (iI kind)), (2, .int (iI i)), (3, .long (lI s)), (5, .int (iI j))]) (st' := [.long (lI r_66), .long (lI (oc j)), .long (lI s)]) (ws' := [(n0, oX12 th dp my sm st sz mo ms yb hpk pkr rt rk rx hsh si gt va vn wd wa re ua pkk pxx bp mk bi pl cd rn rch rtn rdp rki rea rby rsh), (va, aI x.g 400 val), (yb, aI x.g 4 oc)]) [0, 1, 2, 3, 4] [1, 2, 0] rfl rfl (by decide) rfl ?_
          refine j_lmul jb dX12_foretold_69 ?_
          refine j_ladd jb dX12_foretold_70 ?_
          refine j_lstore_n (lv' := [(3, .long (lI (s + ((oc j) * r_66)))), (0, .ref n0), (1, .int (iI kind)), (2, .int (iI i)), (5, .int (iI j))]) jb dX12_foretold_71 rfl (by decide) rfl ?_
          refine j_iinc (lv' := [(5, .int (iI (j + 1))), (3, .long (lI (s + ((oc j) * r_66)))), (0, .ref n0), (1, .int (iI kind)), (2, .int (iI i))]) jb dX12_foretold_72 4 rfl (by decide) rfl ?_
          refine j_goto (tgt := 42) jb dX12_foretold_75 (by decide) ?_
          refine j_norm (lv' := [(0, .ref n0), (1, .int (iI kind)), (2, .int (iI i)), (3, .long (lI (s + ((oc j) * r_66)))), (5, .int (iI (j + 1)))]) (st' := []) (ws' := [(n0, oX12 th dp my sm st sz mo ms yb hpk pkr rt rk rx hsh si gt va vn wd wa re ua pkk pxx bp mk bi pl cd rn rch rtn rdp rki rea rby rsh), (va, aI x.g 400 val), (yb, aI x.g 4 oc)]) [2, 3, 4, 1, 0] [0, 1, 2] rfl rfl (by decide) rfl ?_
          exact ih42 (s + ((oc j) * r_66)) (j + 1) ⟨by omega, by omega, by have z := fsum_next (c := oc) (v := val) (i := i) hj1 hj3; rw [h_66]; unfold bef; rw [if_pos (by omega), show i - (j + 1) = i - 1 - j by omega]; exact z⟩ (by omega)
    refine j_norm (lv' := [(0, .ref n0), (1, .int (iI kind)), (2, .int (iI i)), (3, .long (lI 0)), (5, .int (iI 0))]) (st' := []) (ws' := [(n0, oX12 th dp my sm st sz mo ms yb hpk pkr rt rk rx hsh si gt va vn wd wa re ua pkk pxx bp mk bi pl cd rn rch rtn rdp rki rea rby rsh), (va, aI x.g 400 val), (yb, aI x.g 4 oc)]) [2, 3, 4, 1, 0] [0, 1, 2] rfl rfl (by decide) rfl ?_
    exact L42 _ 0 0 ⟨by decide, by omega, rfl⟩ (Nat.lt_succ_self _)
  · skip
    refine j_iload_n jb dX12_foretold_6 1 rfl ?_
    refine j_iconst jb dX12_foretold_7 ?_
    refine j_isub jb dX12_foretold_8 ?_
    refine j_aload_n jb dX12_foretold_9 0 rfl ?_
    refine j_iload_n jb dX12_foretold_10 2 rfl ?_
    refine j_iconst jb dX12_foretold_11 ?_
    refine j_callV (wr := [(yb, aI x.g 4 oc)]) jb k_X12_before i_X12_before s_X12_before l_X12_107 (C_X12_before x.l x.g n0 my sm st yb pkr rt rk rx si gt va re ua mk rki rea rby th dp sz mo ms hpk hsh vn wd wa pkk pxx bp bi pl cd rn rch rtn rdp rsh i 1 val (by omega) (by omega) hv) 0 14 rfl rfl rfl [0, 1] [2] (by decide) rfl rfl (by decide) (by decide) rfl rfl (Nat.le_of_ble_eq_true rfl) (by decide) dX12_foretold_12 (fun v w hp => ?_)
    obtain ⟨r_12, rfl, rfl, h_12⟩ := hp
    refine j_norm (lv' := [(0, .ref n0), (1, .int (iI kind)), (2, .int (iI i))]) (st' := [.long (lI r_12), .int (iI (kind - 2))]) (ws' := [(n0, oX12 th dp my sm st sz mo ms yb hpk pkr rt rk rx hsh si gt va vn wd wa re ua pkk pxx bp mk bi pl cd rn rch rtn rdp rki rea rby rsh), (va, aI x.g 400 val), (yb, aI x.g 4 oc)]) [0, 1, 2] [1, 2, 0] rfl rfl (by decide) rfl ?_
    refine j_aload_n jb dX12_foretold_15 0 rfl ?_
    refine j_iload_n jb dX12_foretold_16 2 rfl ?_
    refine j_iconst jb dX12_foretold_17 ?_
    refine j_callV (wr := [(yb, aI x.g 4 oc)]) jb k_X12_before i_X12_before s_X12_before l_X12_107 (C_X12_before x.l x.g n0 my sm st yb pkr rt rk rx si gt va re ua mk rki rea rby th dp sz mo ms hpk hsh vn wd wa pkk pxx bp bi pl cd rn rch rtn rdp rsh i 2 val (by omega) (by omega) hv) 0 14 rfl rfl rfl [0, 1] [2] (by decide) rfl rfl (by decide) (by decide) rfl rfl (Nat.le_of_ble_eq_true rfl) (by decide) dX12_foretold_18 (fun v w hp => ?_)
    obtain ⟨r_18, rfl, rfl, h_18⟩ := hp
    refine j_norm (lv' := [(0, .ref n0), (1, .int (iI kind)), (2, .int (iI i))]) (st' := [.long (lI r_18), .long (lI r_12), .int (iI (kind - 2))]) (ws' := [(n0, oX12 th dp my sm st sz mo ms yb hpk pkr rt rk rx hsh si gt va vn wd wa re ua pkk pxx bp mk bi pl cd rn rch rtn rdp rki rea rby rsh), (va, aI x.g 400 val), (yb, aI x.g 4 oc)]) [0, 1, 2] [1, 2, 0] rfl rfl (by decide) rfl ?_
    refine j_aload_n jb dX12_foretold_21 0 rfl ?_
    refine j_iload_n jb dX12_foretold_22 2 rfl ?_
    refine j_iconst jb dX12_foretold_23 ?_
    refine j_callV (wr := [(yb, aI x.g 4 oc)]) jb k_X12_before i_X12_before s_X12_before l_X12_107 (C_X12_before x.l x.g n0 my sm st yb pkr rt rk rx si gt va re ua mk rki rea rby th dp sz mo ms hpk hsh vn wd wa pkk pxx bp bi pl cd rn rch rtn rdp rsh i 3 val (by omega) (by omega) hv) 0 14 rfl rfl rfl [0, 1] [2] (by decide) rfl rfl (by decide) (by decide) rfl rfl (Nat.le_of_ble_eq_true rfl) (by decide) dX12_foretold_24 (fun v w hp => ?_)
    obtain ⟨r_24, rfl, rfl, h_24⟩ := hp
    refine j_norm (lv' := [(0, .ref n0), (1, .int (iI kind)), (2, .int (iI i))]) (st' := [.long (lI r_24), .long (lI r_18), .long (lI r_12), .int (iI (kind - 2))]) (ws' := [(n0, oX12 th dp my sm st sz mo ms yb hpk pkr rt rk rx hsh si gt va vn wd wa re ua pkk pxx bp mk bi pl cd rn rch rtn rdp rki rea rby rsh), (va, aI x.g 400 val), (yb, aI x.g 4 oc)]) [0, 1, 2] [1, 2, 0] rfl rfl (by decide) rfl ?_
    refine j_aload_n jb dX12_foretold_27 0 rfl ?_
    refine j_iload_n jb dX12_foretold_28 2 rfl ?_
    refine j_iconst jb dX12_foretold_29 ?_
    refine j_callV (wr := [(yb, aI x.g 4 oc)]) jb k_X12_before i_X12_before s_X12_before l_X12_107 (C_X12_before x.l x.g n0 my sm st yb pkr rt rk rx si gt va re ua mk rki rea rby th dp sz mo ms hpk hsh vn wd wa pkk pxx bp bi pl cd rn rch rtn rdp rsh i 4 val (by omega) (by omega) hv) 0 14 rfl rfl rfl [0, 1] [2] (by decide) rfl rfl (by decide) (by decide) rfl rfl (Nat.le_of_ble_eq_true rfl) (by decide) dX12_foretold_30 (fun v w hp => ?_)
    obtain ⟨r_30, rfl, rfl, h_30⟩ := hp
    refine j_norm (lv' := [(0, .ref n0), (1, .int (iI kind)), (2, .int (iI i))]) (st' := [.long (lI r_30), .long (lI r_24), .long (lI r_18), .long (lI r_12), .int (iI (kind - 2))]) (ws' := [(n0, oX12 th dp my sm st sz mo ms yb hpk pkr rt rk rx hsh si gt va vn wd wa re ua pkk pxx bp mk bi pl cd rn rch rtn rdp rki rea rby rsh), (va, aI x.g 400 val), (yb, aI x.g 4 oc)]) [0, 1, 2] [1, 2, 0] rfl rfl (by decide) rfl ?_
    refine j_callS (wr := [(n0, oX12 th dp my sm st sz mo ms yb hpk pkr rt rk rx hsh si gt va vn wd wa re ua pkk pxx bp mk bi pl cd rn rch rtn rdp rki rea rby rsh), (va, aI x.g 400 val), (yb, aI x.g 4 oc)]) jb k_X12_fixed t_X12_fixed l_X12_111 (C_X12_fixed x.l x.g (kind - 2) r_12 r_18 r_24 r_30 (by omega)) [] [0, 1, 2] (by decide) rfl rfl (by decide) (by decide) rfl rfl (Nat.le_of_ble_eq_true rfl) (by decide) dX12_foretold_33 (fun v w hp => ?_)
    obtain ⟨r_33, rfl, rfl, h_33⟩ := hp
    refine j_norm (lv' := [(0, .ref n0), (1, .int (iI kind)), (2, .int (iI i))]) (st' := [.long (lI r_33)]) (ws' := [(n0, oX12 th dp my sm st sz mo ms yb hpk pkr rt rk rx hsh si gt va vn wd wa re ua pkk pxx bp mk bi pl cd rn rch rtn rdp rki rea rby rsh), (va, aI x.g 400 val), (yb, aI x.g 4 oc)]) [0, 1, 2] [0, 1, 2] rfl rfl (by decide) rfl ?_
    refine j_norm (lv' := []) (st' := [.long (lI r_33)]) (ws' := [(n0, oX12 th dp my sm st sz mo ms yb hpk pkr rt rk rx hsh si gt va vn wd wa re ua pkk pxx bp mk bi pl cd rn rch rtn rdp rki rea rby rsh), (va, aI x.g 400 val), (yb, aI x.g 4 oc)]) [] [0, 1, 2] rfl rfl (by decide) rfl ?_
    exact j_lret jb jr dX12_foretold_36 ⟨_, rfl, rfl, (by unfold kF; rw [if_neg (by omega), h_33, h_12, h_18, h_24, h_30]; exact fx_ft (by omega) (by omega))⟩

set_option maxHeartbeats 4000000 in
set_option maxRecDepth 100000 in
theorem C_X12_orderOf (l : Launch) (g : GG) (n0 my sm st yb pkr rt rk rx si gt va re ua mk rki rea rby : Nat) (th dp sz mo ms hpk hsh vn wd wa pkk pxx bp bi pl cd rn rch rtn rdp rsh : Int) (kind : Int) (hk : 0 ≤ kind ∧ kind ≤ 7) : Ctr l g yX12_orderOf cX12_orderOf 2 (some .int) 0 0 0 0 [.ref n0, .int (iI kind)] [(n0, oX12 th dp my sm st sz mo ms yb hpk pkr rt rk rx hsh si gt va vn wd wa re ua pkk pxx bp mk bi pl cd rn rch rtn rdp rki rea rby rsh)] (fun vv ww => ∃ (r : Int), vv = some (.int (iI r)) ∧ ww = [(n0, oX12 th dp my sm st sz mo ms yb hpk pkr rt rk rx hsh si gt va vn wd wa re ua pkk pxx bp mk bi pl cd rn rch rtn rdp rki rea rby rsh)] ∧ (kind < 2 → r = 0) ∧ (2 ≤ kind → kind < 7 → r = kind - 2) ∧ (kind = 7 → r = mo)) := by
  refine Ctr.of [(0, .ref n0), (1, .int (iI kind))] (by decide) (Nat.le_of_ble_eq_true rfl) rfl ?_
  intro x hxl hxg jb jr hin
  subst hxl; subst hxg
  refine j_iload_n jb dX12_orderOf_0 1 rfl ?_
  refine j_iconst jb dX12_orderOf_1 ?_
  refine j_icmp_ge (tgt := 9) jb dX12_orderOf_2 (by decide) (by omega) (by omega) (fun c_2 => ?_) (fun c_2 => ?_)
  · skip
    refine j_iload_n jb dX12_orderOf_9 1 rfl ?_
    refine j_bipush jb dX12_orderOf_10 (by decide) ?_
    refine j_icmp_ge (tgt := 21) jb dX12_orderOf_12 (by decide) (by omega) (by omega) (fun c_12 => ?_) (fun c_12 => ?_)
    · skip
      refine j_aload_n jb dX12_orderOf_21 0 rfl ?_
      refine j_get jb f_X12_86 dX12_orderOf_22 0 rfl rfl ?_
      refine j_norm (lv' := []) (st' := [.int (iI mo)]) (ws' := [(n0, oX12 th dp my sm st sz mo ms yb hpk pkr rt rk rx hsh si gt va vn wd wa re ua pkk pxx bp mk bi pl cd rn rch rtn rdp rki rea rby rsh)]) [] [0] rfl rfl (by decide) rfl ?_
      exact j_iret jb jr dX12_orderOf_25 ⟨_, rfl, rfl, (by omega)⟩
    · skip
      refine j_iload_n jb dX12_orderOf_15 1 rfl ?_
      refine j_iconst jb dX12_orderOf_16 ?_
      refine j_isub jb dX12_orderOf_17 ?_
      refine j_goto (tgt := 25) jb dX12_orderOf_18 (by decide) ?_
      refine j_norm (lv' := []) (st' := [.int (iI (kind - 2))]) (ws' := [(n0, oX12 th dp my sm st sz mo ms yb hpk pkr rt rk rx hsh si gt va vn wd wa re ua pkk pxx bp mk bi pl cd rn rch rtn rdp rki rea rby rsh)]) [] [0] rfl rfl (by decide) rfl ?_
      exact j_iret jb jr dX12_orderOf_25 ⟨_, rfl, rfl, (by omega)⟩
  · skip
    refine j_iconst jb dX12_orderOf_5 ?_
    refine j_goto (tgt := 25) jb dX12_orderOf_6 (by decide) ?_
    refine j_norm (lv' := []) (st' := [.int (iI 0)]) (ws' := [(n0, oX12 th dp my sm st sz mo ms yb hpk pkr rt rk rx hsh si gt va vn wd wa re ua pkk pxx bp mk bi pl cd rn rch rtn rdp rki rea rby rsh)]) [] [0] rfl rfl (by decide) rfl ?_
    exact j_iret jb jr dX12_orderOf_25 ⟨_, rfl, rfl, (by omega)⟩

set_option maxHeartbeats 4000000 in
set_option maxRecDepth 100000 in
theorem C_X12_roomOf (l : Launch) (g : GG) (ev : Int) (he : fld ev < 16777216) : Ctr l g yX12_roomOf cX12_roomOf 3 (some .int) 1 30 0 0 [.long (lI ev)] [] (fun vv ww => ∃ (r : Int), vv = some (.int (iI r)) ∧ ww = [] ∧ isBl (fld ev) r ∧ 0 ≤ r ∧ r ≤ 24) := by
  refine Ctr.of [(0, .long (lI ev))] (by decide) (Nat.le_of_ble_eq_true rfl) rfl ?_
  intro x hxl hxg jb jr hin
  subst hxl; subst hxg
  have hei := fld_e he
  refine j_iconst jb dX12_roomOf_0 ?_
  refine j_istore_n (lv' := [(2, .int (iI 0)), (0, .long (lI ev))]) jb dX12_roomOf_1 rfl (by decide) rfl ?_
  have L2 : ∀ (fu : Nat) (xw : Int), (0 ≤ xw ∧ xw ≤ 24 ∧ (0 < xw → (2 : Int) ^ (xw - 1).toNat ≤ fld ev)) → (25 - xw).toNat < fu → JW x 0 0 2 [(0, .long (lI ev)), (2, .int (iI xw))] [] [] := by
    intro fu
    induction fu with
    | zero => intro xw _ hm; exact absurd hm (by omega)
    | succ fu ih =>
      intro xw ⟨hx1, hx2, hx3⟩ hm2
      have ih2 := ih
      clear ih
      refine j_iload_n jb dX12_roomOf_2 1 rfl ?_
      refine j_if_ne (tgt := 15) jb dX12_roomOf_3 (by decide) (by omega) (fun c_3 => ?_) (fun c_3 => ?_)
      · skip
        have q1 := pw_30 (k := xw - 1) (by omega)
        have q2 := pw_pos (xw - 1)
        refine j_lload_n jb dX12_roomOf_15 0 rfl ?_
        refine j_lconst (z := 1) jb dX12_roomOf_16 rfl ?_
        refine j_iload_n jb dX12_roomOf_17 1 rfl ?_
        refine j_iconst jb dX12_roomOf_18 ?_
        refine j_isub jb dX12_roomOf_19 ?_
        refine j_lshl jb dX12_roomOf_20 (by omega) ?_
        refine j_lneg jb dX12_roomOf_21 ?_
        refine j_lconst (z := 1) jb dX12_roomOf_22 rfl ?_
        refine j_iload_n jb dX12_roomOf_23 1 rfl ?_
        refine j_iconst jb dX12_roomOf_24 ?_
        refine j_isub jb dX12_roomOf_25 ?_
        refine j_lshl jb dX12_roomOf_26 (by omega) ?_
        refine j_lconst (z := 1) jb dX12_roomOf_27 rfl ?_
        refine j_lsub jb dX12_roomOf_28 ?_
        refine j_callS (wr := []) jb k_X12_in t_X12_in l_X12_72 (C_X12_in x.l x.g ev (-(1 * 2 ^ (xw - 1).toNat)) ((1 * 2 ^ (xw - 1).toNat) - 1) (by omega) (by omega) (by omega)) [] [] (by decide) rfl rfl (by decide) (by decide) rfl rfl (Nat.le_of_ble_eq_true rfl) (by decide) dX12_roomOf_29 (fun v w hp => ?_)
        obtain ⟨rfl, rfl⟩ := hp
        refine j_norm (lv' := [(0, .long (lI ev)), (2, .int (iI xw))]) (st' := [.int (iI (b2i ((-(1 * 2 ^ (xw - 1).toNat)) ≤ ev ∧ ev ≤ ((1 * 2 ^ (xw - 1).toNat) - 1))))]) (ws' := []) [0, 1] [] rfl rfl (by decide) rfl ?_
        refine j_ifb_ne (tgt := 41) jb dX12_roomOf_32 (by decide) (fun c_32 => ?_) (fun c_32 => ?_)
        · skip
          refine j_iload_n jb dX12_roomOf_41 1 rfl ?_
          refine j_norm (lv' := []) (st' := [.int (iI xw)]) (ws' := []) [] [] rfl rfl (by decide) rfl ?_
          exact j_iret jb jr dX12_roomOf_42 ⟨_, rfl, rfl, (by first | (have z : fld 0 = 0 := by decide); exact ⟨by rw [show ev = 0 by omega, z]; exact bl_0 (by omega), by omega, by omega⟩ | exact ⟨room_end (by omega) c_32 (hx3 (by omega)), by omega, by omega⟩)⟩
        · skip
          refine j_iinc (lv' := [(2, .int (iI (xw + 1))), (0, .long (lI ev))]) jb dX12_roomOf_35 1 rfl (by decide) rfl ?_
          refine j_goto (tgt := 2) jb dX12_roomOf_38 (by decide) ?_
          refine j_norm (lv' := [(0, .long (lI ev)), (2, .int (iI (xw + 1)))]) (st' := []) (ws' := []) [1, 0] [] rfl rfl (by decide) rfl ?_
          exact ih2 (xw + 1) (by first | (have hx0 : xw = 0 := by omega); (have z := fld_ne (e := ev) (by omega)); exact ⟨by omega, by omega, fun _ => by rw [show (xw + 1 - 1).toNat = 0 by omega]; exact z⟩ | (have z := room_step (e := ev) (x := xw) (by omega) c_32); (have y := pw_lt24 z he); exact ⟨by omega, by omega, fun _ => z⟩) (by omega)
      · skip
        refine j_lload_n jb dX12_roomOf_6 0 rfl ?_
        refine j_lconst (z := 0) jb dX12_roomOf_7 rfl ?_
        refine j_lcmp_eq (tgt := 41) jb dX12_roomOf_8 dX12_roomOf_9 (by decide) (by omega) (by omega) (fun c_8 => ?_) (fun c_8 => ?_)
        · skip
          refine j_iload_n jb dX12_roomOf_41 1 rfl ?_
          refine j_norm (lv' := []) (st' := [.int (iI xw)]) (ws' := []) [] [] rfl rfl (by decide) rfl ?_
          exact j_iret jb jr dX12_roomOf_42 ⟨_, rfl, rfl, (by first | (have z : fld 0 = 0 := by decide); exact ⟨by rw [show ev = 0 by omega, z]; exact bl_0 (by omega), by omega, by omega⟩ | exact ⟨room_end (by omega) c_32 (hx3 (by omega)), by omega, by omega⟩)⟩
        · skip
          refine j_goto (tgt := 35) jb dX12_roomOf_12 (by decide) ?_
          refine j_iinc (lv' := [(2, .int (iI (xw + 1))), (0, .long (lI ev))]) jb dX12_roomOf_35 1 rfl (by decide) rfl ?_
          refine j_goto (tgt := 2) jb dX12_roomOf_38 (by decide) ?_
          refine j_norm (lv' := [(0, .long (lI ev)), (2, .int (iI (xw + 1)))]) (st' := []) (ws' := []) [1, 0] [] rfl rfl (by decide) rfl ?_
          exact ih2 (xw + 1) (by first | (have hx0 : xw = 0 := by omega); (have z := fld_ne (e := ev) (by omega)); exact ⟨by omega, by omega, fun _ => by rw [show (xw + 1 - 1).toNat = 0 by omega]; exact z⟩ | (have z := room_step (e := ev) (x := xw) (by omega) c_32); (have y := pw_lt24 z he); exact ⟨by omega, by omega, fun _ => z⟩) (by omega)
  refine j_norm (lv' := [(0, .long (lI ev)), (2, .int (iI 0))]) (st' := []) (ws' := []) [1, 0] [] rfl rfl (by decide) rfl ?_
  exact L2 _ 0 ⟨by decide, by decide, fun q => by omega⟩ (Nat.lt_succ_self _)

set_option maxHeartbeats 4000000 in
set_option maxRecDepth 100000 in
theorem C_X12_partBits (l : Launch) (g : GG) (n0 my sm st yb pkr rt rk rx si gt va re ua mk rki rea rby : Nat) (th dp sz mo ms hpk hsh vn wd wa pkk pxx bp bi pl cd rn rch rtn rdp rsh : Int) (fr to : Int) (rs U : Int → Int) (hft : 0 ≤ fr ∧ fr ≤ to ∧ to ≤ 400) (hU : uIn U fr to) (hrs : ∀ i, fr ≤ i → i < to → U i = fld (rs i)) : Ctr l g yX12_partBits cX12_partBits 9 (some .long) 2 60 0 0 [.ref n0, .int (iI fr), .int (iI to)] [(n0, oX12 th dp my sm st sz mo ms yb hpk pkr rt rk rx hsh si gt va vn wd wa re ua pkk pxx bp mk bi pl cd rn rch rtn rdp rki rea rby rsh), (re, aL g 400 rs), (ua, aL g 400 U)] (fun vv ww => ∃ (r pk2 px2 : Int), vv = some (.long (lI r)) ∧ ww = [(n0, oX12 th dp my sm st sz mo ms yb hpk pkr rt rk rx hsh si gt va vn wd wa re ua pk2 px2 bp mk bi pl cd rn rch rtn rdp rki rea rby rsh), (re, aL g 400 rs), (ua, aL g 400 U)] ∧ r = (partSel (fun t => usum U t fr (to - fr).toNat) (to - fr) (bl (uor U fr (to - fr).toNat))).1 ∧ pk2 = (partSel (fun t => usum U t fr (to - fr).toNat) (to - fr) (bl (uor U fr (to - fr).toNat))).2.1 ∧ px2 = (partSel (fun t => usum U t fr (to - fr).toNat) (to - fr) (bl (uor U fr (to - fr).toNat))).2.2 ∧ 0 ≤ r ∧ r ≤ 9609) := by
  refine Ctr.of [(0, .ref n0), (1, .int (iI fr)), (2, .int (iI to))] (by decide) (Nat.le_of_ble_eq_true rfl) rfl ?_
  intro x hxl hxg jb jr hin
  subst hxl; subst hxg
  have hUm : uIn U fr (fr + ((to - fr).toNat : Int)) := fun i a b => hU i a (by omega)
  have hS : ∀ t : Nat, t < 15 → 0 ≤ (fun t => usum U t fr (to - fr).toNat) t ∧ (fun t => usum U t fr (to - fr).toNat) t ≤ 17179869184 := fun t _ => by (have z := usum_in t _ hUm; show 0 ≤ usum U t fr (to - fr).toNat ∧ usum U t fr (to - fr).toNat ≤ 17179869184; omega)
  have h14 : kb (fun t => usum U t fr (to - fr).toNat) (to - fr) 14 < 1000000000 := by (have z := usum_14 _ hUm; show 4 + usum U 14 fr (to - fr).toNat + (to - fr) * (1 + ((14 : Nat) : Int)) < _; omega)
  have huo := uor_in _ hUm
  refine j_ldc2 (z := 1000000000) jb q_X12_115 rfl dX12_partBits_0 ?_
  refine j_lstore_n (lv' := [(3, .long (lI 1000000000)), (0, .ref n0), (1, .int (iI fr)), (2, .int (iI to))]) jb dX12_partBits_3 rfl (by decide) rfl ?_
  refine j_iconst jb dX12_partBits_4 ?_
  refine j_istore (lv' := [(5, .int (iI 0)), (3, .long (lI 1000000000)), (0, .ref n0), (1, .int (iI fr)), (2, .int (iI to))]) jb dX12_partBits_5 (by decide) rfl ?_
  have L7 : ∀ (fu : Nat) (best k pk1 px1 : Int), (0 ≤ k ∧ k ≤ 15 ∧ (0 ≤ best ∧ best ≤ 1000000000) ∧ kInv (fun t => usum U t fr (to - fr).toNat) (to - fr) k best pk1 px1) → (15 - k).toNat < fu → JW x 0 0 7 [(0, .ref n0), (1, .int (iI fr)), (2, .int (iI to)), (3, .long (lI best)), (5, .int (iI k))] [] [(n0, oX12 th dp my sm st sz mo ms yb hpk pkr rt rk rx hsh si gt va vn wd wa re ua pk1 px1 bp mk bi pl cd rn rch rtn rdp rki rea rby rsh), (re, aL x.g 400 rs), (ua, aL x.g 400 U)] := by
    intro fu
    induction fu with
    | zero => intro best k pk1 px1 _ hm; exact absurd hm (by omega)
    | succ fu ih =>
      intro best k pk1 px1 ⟨hk1, hk2, hk3, hk4⟩ hm7
      have ih7 := ih
      clear ih
      refine j_iload jb dX12_partBits_7 4 rfl ?_
      refine j_bipush jb dX12_partBits_9 (by decide) ?_
      refine j_icmp_ge (tgt := 82) jb dX12_partBits_11 (by decide) (by omega) (by omega) (fun c_11 => ?_) (fun c_11 => ?_)
      · skip
        refine j_iconst jb dX12_partBits_82 ?_
        refine j_istore (lv' := [(5, .int (iI 0)), (0, .ref n0), (1, .int (iI fr)), (2, .int (iI to)), (3, .long (lI best))]) jb dX12_partBits_83 (by decide) rfl ?_
        refine j_iload_n jb dX12_partBits_85 2 rfl ?_
        refine j_istore (lv' := [(6, .int (iI fr)), (5, .int (iI 0)), (0, .ref n0), (1, .int (iI fr)), (2, .int (iI to)), (3, .long (lI best))]) jb dX12_partBits_86 (by decide) rfl ?_
        have L88 : ∀ (fu : Nat) (xm ip : Int), (fr ≤ ip ∧ ip ≤ to ∧ isBl (uor U fr (ip - fr).toNat) xm ∧ 0 ≤ xm ∧ xm ≤ 24) → (to - ip).toNat < fu → JW x 0 0 88 [(0, .ref n0), (1, .int (iI fr)), (2, .int (iI to)), (3, .long (lI best)), (5, .int (iI xm)), (6, .int (iI ip))] [] [(n0, oX12 th dp my sm st sz mo ms yb hpk pkr rt rk rx hsh si gt va vn wd wa re ua pk1 px1 bp mk bi pl cd rn rch rtn rdp rki rea rby rsh), (re, aL x.g 400 rs), (ua, aL x.g 400 U)] := by
          intro fu
          induction fu with
          | zero => intro xm ip _ hm; exact absurd hm (by omega)
          | succ fu ih =>
            intro xm ip ⟨hx1, hx2, hx3, hx4, hx5⟩ hm88
            have ih88 := ih
            clear ih
            refine j_iload jb dX12_partBits_88 5 rfl ?_
            refine j_iload_n jb dX12_partBits_90 2 rfl ?_
            refine j_icmp_ge (tgt := 128) jb dX12_partBits_91 (by decide) (by omega) (by omega) (fun c_91 => ?_) (fun c_91 => ?_)
            · skip
              have hen := kInv_end (by omega) hk4 h14
              have hbl : bl (uor U fr (to - fr).toNat) = xm := by (rw [show ip = to by omega] at hx3; exact isBl_uni (bl_is huo.1) hx3)
              have hcx := mul_in (A := 24) (C := 400) (a := xm) (b := to - fr) (by omega) (by omega) (by decide)
              have hcm : xm * (to - fr) = (to - fr) * xm := Int.mul_comm _ _
              have hpi := partSel_in (S := (fun t => usum U t fr (to - fr).toNat)) (cnt := to - fr) (x := xm) (by omega) (by omega) hS
              refine j_ldc2 (z := 9) jb q_X12_127 rfl dX12_partBits_128 ?_
              refine j_iload jb dX12_partBits_131 4 rfl ?_
              refine j_i2l jb dX12_partBits_133 (by omega) ?_
              refine j_iload_n jb dX12_partBits_134 2 rfl ?_
              refine j_iload_n jb dX12_partBits_135 1 rfl ?_
              refine j_isub jb dX12_partBits_136 ?_
              refine j_i2l jb dX12_partBits_137 (by omega) ?_
              refine j_lmul jb dX12_partBits_138 ?_
              refine j_ladd jb dX12_partBits_139 ?_
              refine j_lstore (lv' := [(6, .long (lI (9 + (xm * (to - fr))))), (0, .ref n0), (1, .int (iI fr)), (2, .int (iI to)), (3, .long (lI best)), (5, .int (iI xm))]) jb dX12_partBits_140 (by decide) rfl ?_
              refine j_lload jb dX12_partBits_142 0 rfl ?_
              refine j_lload_n jb dX12_partBits_144 4 rfl ?_
              refine j_lcmp_ge (tgt := 164) jb dX12_partBits_145 dX12_partBits_146 (by decide) (by omega) (by omega) (fun c_145 => ?_) (fun c_145 => ?_)
              · skip
                refine j_lload_n jb dX12_partBits_164 4 rfl ?_
                refine j_norm (lv' := []) (st' := [.long (lI best)]) (ws' := [(n0, oX12 th dp my sm st sz mo ms yb hpk pkr rt rk rx hsh si gt va vn wd wa re ua pk1 px1 bp mk bi pl cd rn rch rtn rdp rki rea rby rsh), (re, aL x.g 400 rs), (ua, aL x.g 400 U)]) [] [0, 1, 2] rfl rfl (by decide) rfl ?_
                exact j_lret jb jr dX12_partBits_165 ⟨_, _, _, rfl, rfl, (by rw [hbl]; first | (have z : partSel (fun t => usum U t fr (to - fr).toNat) (to - fr) xm = (9 + (to - fr) * xm, 15, xm) := if_pos (by omega)); rw [z] at hpi ⊢; exact ⟨by omega, rfl, rfl, by omega, by omega⟩ | (have z : partSel (fun t => usum U t fr (to - fr).toNat) (to - fr) xm = ((kBest (fun t => usum U t fr (to - fr).toNat) (to - fr) 14).1, (kBest (fun t => usum U t fr (to - fr).toNat) (to - fr) 14).2, -1) := if_neg (by omega)); rw [z] at hpi ⊢; exact ⟨hen.1, hen.2.1, hen.2.2, by omega, by omega⟩)⟩
              · skip
                refine j_lload jb dX12_partBits_149 0 rfl ?_
                refine j_lstore_n (lv' := [(3, .long (lI (9 + (xm * (to - fr))))), (6, .long (lI (9 + (xm * (to - fr))))), (0, .ref n0), (1, .int (iI fr)), (2, .int (iI to)), (5, .int (iI xm))]) jb dX12_partBits_151 rfl (by decide) rfl ?_
                refine j_aload_n jb dX12_partBits_152 2 rfl ?_
                refine j_bipush jb dX12_partBits_153 (by decide) ?_
                refine j_put (ws' := [(n0, oX12 th dp my sm st sz mo ms yb hpk pkr rt rk rx hsh si gt va vn wd wa re ua 15 px1 bp mk bi pl cd rn rch rtn rdp rki rea rby rsh), (re, aL x.g 400 rs), (ua, aL x.g 400 U)]) jb f_X12_117 w_X12_23 rfl dX12_partBits_155 0 rfl rfl rfl (Nat.le_of_ble_eq_true rfl) rfl ?_
                refine j_aload_n jb dX12_partBits_158 2 rfl ?_
                refine j_iload jb dX12_partBits_159 5 rfl ?_
                refine j_put (ws' := [(n0, oX12 th dp my sm st sz mo ms yb hpk pkr rt rk rx hsh si gt va vn wd wa re ua 15 xm bp mk bi pl cd rn rch rtn rdp rki rea rby rsh), (re, aL x.g 400 rs), (ua, aL x.g 400 U)]) jb f_X12_120 w_X12_24 rfl dX12_partBits_161 0 rfl rfl rfl (Nat.le_of_ble_eq_true rfl) rfl ?_
                refine j_lload_n jb dX12_partBits_164 0 rfl ?_
                refine j_norm (lv' := []) (st' := [.long (lI (9 + (xm * (to - fr))))]) (ws' := [(n0, oX12 th dp my sm st sz mo ms yb hpk pkr rt rk rx hsh si gt va vn wd wa re ua 15 xm bp mk bi pl cd rn rch rtn rdp rki rea rby rsh), (re, aL x.g 400 rs), (ua, aL x.g 400 U)]) [] [0, 1, 2] rfl rfl (by decide) rfl ?_
                exact j_lret jb jr dX12_partBits_165 ⟨_, _, _, rfl, rfl, (by rw [hbl]; first | (have z : partSel (fun t => usum U t fr (to - fr).toNat) (to - fr) xm = (9 + (to - fr) * xm, 15, xm) := if_pos (by omega)); rw [z] at hpi ⊢; exact ⟨by omega, rfl, rfl, by omega, by omega⟩ | (have z : partSel (fun t => usum U t fr (to - fr).toNat) (to - fr) xm = ((kBest (fun t => usum U t fr (to - fr).toNat) (to - fr) 14).1, (kBest (fun t => usum U t fr (to - fr).toNat) (to - fr) 14).2, -1) := if_neg (by omega)); rw [z] at hpi ⊢; exact ⟨hen.1, hen.2.1, hen.2.2, by omega, by omega⟩)⟩
            · skip
              refine j_aload_n jb dX12_partBits_94 0 rfl ?_
              refine j_get jb f_X12_50 dX12_partBits_95 0 rfl rfl ?_
              refine j_iload jb dX12_partBits_98 5 rfl ?_
              refine j_lald jb dX12_partBits_100 1 rfl (by omega) (by decide) ?_
              refine j_callS (wr := [(n0, oX12 th dp my sm st sz mo ms yb hpk pkr rt rk rx hsh si gt va vn wd wa re ua pk1 px1 bp mk bi pl cd rn rch rtn rdp rki rea rby rsh), (re, aL x.g 400 rs), (ua, aL x.g 400 U)]) jb k_X12_roomOf t_X12_roomOf l_X12_123 (C_X12_roomOf x.l x.g (rs ip) (by rw [← hrs ip hx1 (by omega)]; exact (hU ip hx1 (by omega)).2)) [] [0, 1, 2] (by decide) rfl rfl (by decide) (by decide) rfl rfl (Nat.le_of_ble_eq_true rfl) (by decide) dX12_partBits_101 (fun v w hp => ?_)
              obtain ⟨yr, rfl, rfl, h101⟩ := hp
              refine j_norm (lv' := [(0, .ref n0), (1, .int (iI fr)), (2, .int (iI to)), (3, .long (lI best)), (5, .int (iI xm)), (6, .int (iI ip))]) (st' := [.int (iI yr)]) (ws' := [(n0, oX12 th dp my sm st sz mo ms yb hpk pkr rt rk rx hsh si gt va vn wd wa re ua pk1 px1 bp mk bi pl cd rn rch rtn rdp rki rea rby rsh), (re, aL x.g 400 rs), (ua, aL x.g 400 U)]) [0, 1, 2, 3, 4, 5] [0, 1, 2] rfl rfl (by decide) rfl ?_
              refine j_istore (lv' := [(7, .int (iI yr)), (0, .ref n0), (1, .int (iI fr)), (2, .int (iI to)), (3, .long (lI best)), (5, .int (iI xm)), (6, .int (iI ip))]) jb dX12_partBits_104 (by decide) rfl ?_
              refine j_iload jb dX12_partBits_106 0 rfl ?_
              refine j_iload jb dX12_partBits_108 5 rfl ?_
              refine j_icmp_le (tgt := 118) jb dX12_partBits_110 (by decide) (by omega) (by omega) (fun c_110 => ?_) (fun c_110 => ?_)
              · skip
                refine j_iload jb dX12_partBits_118 5 rfl ?_
                refine j_istore (lv' := [(5, .int (iI xm)), (7, .int (iI yr)), (0, .ref n0), (1, .int (iI fr)), (2, .int (iI to)), (3, .long (lI best)), (6, .int (iI ip))]) jb dX12_partBits_120 (by decide) rfl ?_
                refine j_iinc (lv' := [(6, .int (iI (ip + 1))), (5, .int (iI xm)), (7, .int (iI yr)), (0, .ref n0), (1, .int (iI fr)), (2, .int (iI to)), (3, .long (lI best))]) jb dX12_partBits_122 6 rfl (by decide) rfl ?_
                refine j_goto (tgt := 88) jb dX12_partBits_125 (by decide) ?_
                refine j_norm (lv' := [(0, .ref n0), (1, .int (iI fr)), (2, .int (iI to)), (3, .long (lI best)), (5, .int (iI xm)), (6, .int (iI (ip + 1)))]) (st' := []) (ws' := [(n0, oX12 th dp my sm st sz mo ms yb hpk pkr rt rk rx hsh si gt va vn wd wa re ua pk1 px1 bp mk bi pl cd rn rch rtn rdp rki rea rby rsh), (re, aL x.g 400 rs), (ua, aL x.g 400 U)]) [3, 4, 5, 6, 1, 0] [0, 1, 2] rfl rfl (by decide) rfl ?_
                exact ih88 xm (ip + 1) ⟨by omega, by omega, by rw [uor_next hx1]; exact bl_or (uor_in _ (fun j a b => hU j a (by omega))) (hU ip hx1 (by omega)) hx3 (by rw [hrs ip hx1 (by omega)]; exact h101.1) (by omega), by omega, by omega⟩ (by omega)
              · skip
                refine j_iload jb dX12_partBits_113 0 rfl ?_
                refine j_goto (tgt := 120) jb dX12_partBits_115 (by decide) ?_
                refine j_istore (lv' := [(5, .int (iI yr)), (7, .int (iI yr)), (0, .ref n0), (1, .int (iI fr)), (2, .int (iI to)), (3, .long (lI best)), (6, .int (iI ip))]) jb dX12_partBits_120 (by decide) rfl ?_
                refine j_iinc (lv' := [(6, .int (iI (ip + 1))), (5, .int (iI yr)), (7, .int (iI yr)), (0, .ref n0), (1, .int (iI fr)), (2, .int (iI to)), (3, .long (lI best))]) jb dX12_partBits_122 6 rfl (by decide) rfl ?_
                refine j_goto (tgt := 88) jb dX12_partBits_125 (by decide) ?_
                refine j_norm (lv' := [(0, .ref n0), (1, .int (iI fr)), (2, .int (iI to)), (3, .long (lI best)), (5, .int (iI yr)), (6, .int (iI (ip + 1)))]) (st' := []) (ws' := [(n0, oX12 th dp my sm st sz mo ms yb hpk pkr rt rk rx hsh si gt va vn wd wa re ua pk1 px1 bp mk bi pl cd rn rch rtn rdp rki rea rby rsh), (re, aL x.g 400 rs), (ua, aL x.g 400 U)]) [3, 4, 5, 6, 1, 0] [0, 1, 2] rfl rfl (by decide) rfl ?_
                exact ih88 yr (ip + 1) ⟨by omega, by omega, by rw [uor_next hx1]; exact bl_or (uor_in _ (fun j a b => hU j a (by omega))) (hU ip hx1 (by omega)) hx3 (by rw [hrs ip hx1 (by omega)]; exact h101.1) (by omega), by omega, by omega⟩ (by omega)
        refine j_norm (lv' := [(0, .ref n0), (1, .int (iI fr)), (2, .int (iI to)), (3, .long (lI best)), (5, .int (iI 0)), (6, .int (iI fr))]) (st' := []) (ws' := [(n0, oX12 th dp my sm st sz mo ms yb hpk pkr rt rk rx hsh si gt va vn wd wa re ua pk1 px1 bp mk bi pl cd rn rch rtn rdp rki rea rby rsh), (re, aL x.g 400 rs), (ua, aL x.g 400 U)]) [2, 3, 4, 5, 1, 0] [0, 1, 2] rfl rfl (by decide) rfl ?_
        exact L88 _ 0 fr ⟨Int.le_refl _, hft.2.1, by rw [Int.sub_self]; exact bl_0 rfl, by decide, by decide⟩ (Nat.lt_succ_self _)
      · skip
        refine j_ldc2 (z := 4) jb q_X12_82 rfl dX12_partBits_14 ?_
        refine j_lstore (lv' := [(6, .long (lI 4)), (0, .ref n0), (1, .int (iI fr)), (2, .int (iI to)), (3, .long (lI best)), (5, .int (iI k))]) jb dX12_partBits_17 (by decide) rfl ?_
        refine j_iload_n jb dX12_partBits_19 2 rfl ?_
        refine j_istore (lv' := [(8, .int (iI fr)), (6, .long (lI 4)), (0, .ref n0), (1, .int (iI fr)), (2, .int (iI to)), (3, .long (lI best)), (5, .int (iI k))]) jb dX12_partBits_20 (by decide) rfl ?_
        have L22 : ∀ (fu : Nat) (bt i : Int), (fr ≤ i ∧ i ≤ to ∧ bt = 4 + usum U k.toNat fr (i - fr).toNat + (i - fr) * (1 + k)) → (to - i).toNat < fu → JW x 0 0 22 [(0, .ref n0), (1, .int (iI fr)), (2, .int (iI to)), (3, .long (lI best)), (5, .int (iI k)), (6, .long (lI bt)), (8, .int (iI i))] [] [(n0, oX12 th dp my sm st sz mo ms yb hpk pkr rt rk rx hsh si gt va vn wd wa re ua pk1 px1 bp mk bi pl cd rn rch rtn rdp rki rea rby rsh), (re, aL x.g 400 rs), (ua, aL x.g 400 U)] := by
          intro fu
          induction fu with
          | zero => intro bt i _ hm; exact absurd hm (by omega)
          | succ fu ih =>
            intro bt i ⟨hi1, hi2, hi3⟩ hm22
            have ih22 := ih
            clear ih
            refine j_iload jb dX12_partBits_22 6 rfl ?_
            refine j_iload_n jb dX12_partBits_24 2 rfl ?_
            refine j_icmp_ge (tgt := 55) jb dX12_partBits_25 (by decide) (by omega) (by omega) (fun c_25 => ?_) (fun c_25 => ?_)
            · skip
              have hbt : bt = kb (fun t => usum U t fr (to - fr).toNat) (to - fr) k.toNat := by (rw [hi3, show i = to by omega]; show _ = 4 + usum U k.toNat fr (to - fr).toNat + (to - fr) * (1 + (k.toNat : Int)); rw [show (k.toNat : Int) = k by omega])
              have hbi := kb_in (S := (fun t => usum U t fr (to - fr).toNat)) (cnt := to - fr) (by omega) hS (j := k.toNat) (by omega)
              rw [← hbt] at hbi
              refine j_lload jb dX12_partBits_55 5 rfl ?_
              refine j_lload_n jb dX12_partBits_57 3 rfl ?_
              refine j_lcmp_ge (tgt := 76) jb dX12_partBits_58 dX12_partBits_59 (by decide) (by omega) (by omega) (fun c_58 => ?_) (fun c_58 => ?_)
              · skip
                refine j_iinc (lv' := [(5, .int (iI (k + 1))), (0, .ref n0), (1, .int (iI fr)), (2, .int (iI to)), (3, .long (lI best)), (6, .long (lI bt)), (8, .int (iI i))]) jb dX12_partBits_76 4 rfl (by decide) rfl ?_
                refine j_goto (tgt := 7) jb dX12_partBits_79 (by decide) ?_
                refine j_norm (lv' := [(0, .ref n0), (1, .int (iI fr)), (2, .int (iI to)), (3, .long (lI best)), (5, .int (iI (k + 1)))]) (st' := []) (ws' := [(n0, oX12 th dp my sm st sz mo ms yb hpk pkr rt rk rx hsh si gt va vn wd wa re ua pk1 px1 bp mk bi pl cd rn rch rtn rdp rki rea rby rsh), (re, aL x.g 400 rs), (ua, aL x.g 400 U)]) [1, 2, 3, 4, 0] [0, 1, 2] rfl rfl (by decide) rfl ?_
                exact ih7 best (k + 1) pk1 px1 (by first | exact ⟨by omega, by omega, by omega, kInv_new hk1 hk4 hbt (by omega)⟩ | exact ⟨by omega, by omega, by omega, kInv_old hk1 hk4 hbt (by omega)⟩) (by omega)
              · skip
                refine j_lload jb dX12_partBits_62 5 rfl ?_
                refine j_lstore_n (lv' := [(3, .long (lI bt)), (0, .ref n0), (1, .int (iI fr)), (2, .int (iI to)), (5, .int (iI k)), (6, .long (lI bt)), (8, .int (iI i))]) jb dX12_partBits_64 rfl (by decide) rfl ?_
                refine j_aload_n jb dX12_partBits_65 1 rfl ?_
                refine j_iload jb dX12_partBits_66 4 rfl ?_
                refine j_put (ws' := [(n0, oX12 th dp my sm st sz mo ms yb hpk pkr rt rk rx hsh si gt va vn wd wa re ua k px1 bp mk bi pl cd rn rch rtn rdp rki rea rby rsh), (re, aL x.g 400 rs), (ua, aL x.g 400 U)]) jb f_X12_117 w_X12_23 rfl dX12_partBits_68 0 rfl rfl rfl (Nat.le_of_ble_eq_true rfl) rfl ?_
                refine j_aload_n jb dX12_partBits_71 1 rfl ?_
                refine j_iconst jb dX12_partBits_72 ?_
                refine j_put (ws' := [(n0, oX12 th dp my sm st sz mo ms yb hpk pkr rt rk rx hsh si gt va vn wd wa re ua k (-1) bp mk bi pl cd rn rch rtn rdp rki rea rby rsh), (re, aL x.g 400 rs), (ua, aL x.g 400 U)]) jb f_X12_120 w_X12_24 rfl dX12_partBits_73 0 rfl rfl rfl (Nat.le_of_ble_eq_true rfl) rfl ?_
                refine j_iinc (lv' := [(5, .int (iI (k + 1))), (3, .long (lI bt)), (0, .ref n0), (1, .int (iI fr)), (2, .int (iI to)), (6, .long (lI bt)), (8, .int (iI i))]) jb dX12_partBits_76 4 rfl (by decide) rfl ?_
                refine j_goto (tgt := 7) jb dX12_partBits_79 (by decide) ?_
                refine j_norm (lv' := [(0, .ref n0), (1, .int (iI fr)), (2, .int (iI to)), (3, .long (lI bt)), (5, .int (iI (k + 1)))]) (st' := []) (ws' := [(n0, oX12 th dp my sm st sz mo ms yb hpk pkr rt rk rx hsh si gt va vn wd wa re ua k (-1) bp mk bi pl cd rn rch rtn rdp rki rea rby rsh), (re, aL x.g 400 rs), (ua, aL x.g 400 U)]) [2, 3, 4, 1, 0] [0, 1, 2] rfl rfl (by decide) rfl ?_
                exact ih7 bt (k + 1) k (-1) (by first | exact ⟨by omega, by omega, by omega, kInv_new hk1 hk4 hbt (by omega)⟩ | exact ⟨by omega, by omega, by omega, kInv_old hk1 hk4 hbt (by omega)⟩) (by omega)
            · skip
              refine j_lload jb dX12_partBits_28 5 rfl ?_
              refine j_aload_n jb dX12_partBits_30 0 rfl ?_
              refine j_get jb f_X12_54 dX12_partBits_31 0 rfl rfl ?_
              refine j_iload jb dX12_partBits_34 6 rfl ?_
              refine j_lald jb dX12_partBits_36 2 rfl (by omega) (by decide) ?_
              refine j_iload jb dX12_partBits_37 4 rfl ?_
              refine j_lshr jb dX12_partBits_39 (by have := hU i hi1 (by omega); omega) (by omega) ?_
              refine j_lconst (z := 1) jb dX12_partBits_40 rfl ?_
              refine j_ladd jb dX12_partBits_41 ?_
              refine j_iload jb dX12_partBits_42 4 rfl ?_
              refine j_i2l jb dX12_partBits_44 (by omega) ?_
              refine j_ladd jb dX12_partBits_45 ?_
              refine j_ladd jb dX12_partBits_46 ?_
              refine j_lstore (lv' := [(6, .long (lI (bt + ((((U i) / 2 ^ k.toNat) + 1) + k)))), (0, .ref n0), (1, .int (iI fr)), (2, .int (iI to)), (3, .long (lI best)), (5, .int (iI k)), (8, .int (iI i))]) jb dX12_partBits_47 (by decide) rfl ?_
              refine j_iinc (lv' := [(8, .int (iI (i + 1))), (6, .long (lI (bt + ((((U i) / 2 ^ k.toNat) + 1) + k)))), (0, .ref n0), (1, .int (iI fr)), (2, .int (iI to)), (3, .long (lI best)), (5, .int (iI k))]) jb dX12_partBits_49 6 rfl (by decide) rfl ?_
              refine j_goto (tgt := 22) jb dX12_partBits_52 (by decide) ?_
              refine j_norm (lv' := [(0, .ref n0), (1, .int (iI fr)), (2, .int (iI to)), (3, .long (lI best)), (5, .int (iI k)), (6, .long (lI (bt + ((((U i) / 2 ^ k.toNat) + 1) + k)))), (8, .int (iI (i + 1)))]) (st' := []) (ws' := [(n0, oX12 th dp my sm st sz mo ms yb hpk pkr rt rk rx hsh si gt va vn wd wa re ua pk1 px1 bp mk bi pl cd rn rch rtn rdp rki rea rby rsh), (re, aL x.g 400 rs), (ua, aL x.g 400 U)]) [2, 3, 4, 5, 6, 1, 0] [0, 1, 2] rfl rfl (by decide) rfl ?_
              exact ih22 (bt + ((((U i) / 2 ^ k.toNat) + 1) + k)) (i + 1) ⟨by omega, by omega, pb_next hi1 hi3⟩ (by omega)
        refine j_norm (lv' := [(0, .ref n0), (1, .int (iI fr)), (2, .int (iI to)), (3, .long (lI best)), (5, .int (iI k)), (6, .long (lI 4)), (8, .int (iI fr))]) (st' := []) (ws' := [(n0, oX12 th dp my sm st sz mo ms yb hpk pkr rt rk rx hsh si gt va vn wd wa re ua pk1 px1 bp mk bi pl cd rn rch rtn rdp rki rea rby rsh), (re, aL x.g 400 rs), (ua, aL x.g 400 U)]) [2, 3, 4, 5, 6, 1, 0] [0, 1, 2] rfl rfl (by decide) rfl ?_
        exact L22 _ 4 fr ⟨Int.le_refl _, hft.2.1, by rw [Int.sub_self, Int.zero_mul]; rfl⟩ (Nat.lt_succ_self _)
  refine j_norm (lv' := [(0, .ref n0), (1, .int (iI fr)), (2, .int (iI to)), (3, .long (lI 1000000000)), (5, .int (iI 0))]) (st' := []) (ws' := [(n0, oX12 th dp my sm st sz mo ms yb hpk pkr rt rk rx hsh si gt va vn wd wa re ua pkk pxx bp mk bi pl cd rn rch rtn rdp rki rea rby rsh), (re, aL x.g 400 rs), (ua, aL x.g 400 U)]) [2, 3, 4, 1, 0] [0, 1, 2] rfl rfl (by decide) rfl ?_
  exact L7 _ 1000000000 0 pkk pxx ⟨by decide, by decide, by decide, Or.inl ⟨rfl, Or.inl rfl⟩⟩ (Nat.lt_succ_self _)

set_option maxHeartbeats 4000000 in
set_option maxRecDepth 100000 in
theorem C_X12_mayPart (l : Launch) (g : GG) (n0 my sm st yb pkr rt rk rx si gt va re ua mk rki rea rby : Nat) (th dp sz mo ms hpk hsh vn wd wa pkk pxx bp bi pl cd rn rch rtn rdp rsh : Int) (p o : Int) (hp : 0 ≤ p ∧ p ≤ 4) (ho : 0 ≤ o ∧ o ≤ 400) (hn : 1 ≤ vn ∧ vn ≤ 400) : Ctr l g yX12_mayPart cX12_mayPart 3 (some .boolean) 0 0 0 0 [.ref n0, .int (iI p), .int (iI o)] [(n0, oX12 th dp my sm st sz mo ms yb hpk pkr rt rk rx hsh si gt va vn wd wa re ua pkk pxx bp mk bi pl cd rn rch rtn rdp rki rea rby rsh)] (fun vv ww => ∃ (r : Int), vv = some (.int (iI r)) ∧ ww = [(n0, oX12 th dp my sm st sz mo ms yb hpk pkr rt rk rx hsh si gt va vn wd wa re ua pkk pxx bp mk bi pl cd rn rch rtn rdp rki rea rby rsh)] ∧ ((r = 1 ∧ may vn o p) ∨ (r = 0 ∧ ¬ may vn o p))) := by
  refine Ctr.of [(0, .ref n0), (1, .int (iI p)), (2, .int (iI o))] (by decide) (Nat.le_of_ble_eq_true rfl) rfl ?_
  intro x hxl hxg jb jr hin
  subst hxl; subst hxg
  have q1 := pw_pos p
  have q2 := pw_le (k := p) 4 hp.2
  rw [show (2 : Int) ^ 4 = 16 by decide] at q2
  have q3 := Int.emod_nonneg vn (show (2 : Int) ^ p.toNat ≠ 0 by omega)
  have q4 := Int.emod_lt_of_pos vn q1
  have q5 := Int.ediv_nonneg (show 0 ≤ vn by omega) (show 0 ≤ (2 : Int) ^ p.toNat by omega)
  have q6 := Int.ediv_le_self (2 ^ p.toNat) (show 0 ≤ vn by omega)
  refine j_aload_n jb dX12_mayPart_0 0 rfl ?_
  refine j_get jb f_X12_92 dX12_mayPart_1 0 rfl rfl ?_
  refine j_iconst jb dX12_mayPart_4 ?_
  refine j_iload_n jb dX12_mayPart_5 1 rfl ?_
  refine j_ishl jb dX12_mayPart_6 (by omega) ?_
  refine j_topi (2 ^ p.toNat) (Int.one_mul _) ?_
  refine j_irem jb dX12_mayPart_7 (by omega) ?_
  refine j_if_ne (tgt := 25) jb dX12_mayPart_8 (by decide) (by omega) (fun c_8 => ?_) (fun c_8 => ?_)
  · skip
    refine j_iconst jb dX12_mayPart_25 ?_
    refine j_norm (lv' := []) (st' := [.int (iI 0)]) (ws' := [(n0, oX12 th dp my sm st sz mo ms yb hpk pkr rt rk rx hsh si gt va vn wd wa re ua pkk pxx bp mk bi pl cd rn rch rtn rdp rki rea rby rsh)]) [] [0] rfl rfl (by decide) rfl ?_
    exact j_zret jb jr dX12_mayPart_26 rfl ⟨_, rfl, rfl, (by first | exact Or.inl ⟨rfl, by omega, by omega⟩ | exact Or.inr ⟨rfl, fun z => absurd z.1 (by omega)⟩ | exact Or.inr ⟨rfl, fun z => absurd z.2 (by omega)⟩)⟩
  · skip
    refine j_aload_n jb dX12_mayPart_11 0 rfl ?_
    refine j_get jb f_X12_92 dX12_mayPart_12 0 rfl rfl ?_
    refine j_iload_n jb dX12_mayPart_15 1 rfl ?_
    refine j_ishr jb dX12_mayPart_16 (by omega) (by omega) ?_
    refine j_iload_n jb dX12_mayPart_17 2 rfl ?_
    refine j_icmp_lt (tgt := 25) jb dX12_mayPart_18 (by decide) (by omega) (by omega) (fun c_18 => ?_) (fun c_18 => ?_)
    · skip
      refine j_iconst jb dX12_mayPart_25 ?_
      refine j_norm (lv' := []) (st' := [.int (iI 0)]) (ws' := [(n0, oX12 th dp my sm st sz mo ms yb hpk pkr rt rk rx hsh si gt va vn wd wa re ua pkk pxx bp mk bi pl cd rn rch rtn rdp rki rea rby rsh)]) [] [0] rfl rfl (by decide) rfl ?_
      exact j_zret jb jr dX12_mayPart_26 rfl ⟨_, rfl, rfl, (by first | exact Or.inl ⟨rfl, by omega, by omega⟩ | exact Or.inr ⟨rfl, fun z => absurd z.1 (by omega)⟩ | exact Or.inr ⟨rfl, fun z => absurd z.2 (by omega)⟩)⟩
    · skip
      refine j_iconst jb dX12_mayPart_21 ?_
      refine j_goto (tgt := 26) jb dX12_mayPart_22 (by decide) ?_
      refine j_norm (lv' := []) (st' := [.int (iI 1)]) (ws' := [(n0, oX12 th dp my sm st sz mo ms yb hpk pkr rt rk rx hsh si gt va vn wd wa re ua pkk pxx bp mk bi pl cd rn rch rtn rdp rki rea rby rsh)]) [] [0] rfl rfl (by decide) rfl ?_
      exact j_zret jb jr dX12_mayPart_26 rfl ⟨_, rfl, rfl, (by first | exact Or.inl ⟨rfl, by omega, by omega⟩ | exact Or.inr ⟨rfl, fun z => absurd z.1 (by omega)⟩ | exact Or.inr ⟨rfl, fun z => absurd z.2 (by omega)⟩)⟩

set_option maxHeartbeats 4000000 in
set_option maxRecDepth 100000 in
theorem C_X12_restBits (l : Launch) (g : GG) (n0 my sm st yb pkr rt rk rx si gt va re ua mk rki rea rby : Nat) (th dp sz mo ms hpk hsh vn wd wa pkk pxx bp bi pl cd rn rch rtn rdp rsh : Int) (o : Int) (rs U : Int → Int) (hn : 1 ≤ vn ∧ vn ≤ 400) (ho : 0 ≤ o ∧ o ≤ vn) (hU : uIn U o vn) (hrs : ∀ i, o ≤ i → i < vn → U i = fld (rs i)) : Ctr l g yX12_restBits cX12_restBits 9 (some .long) 3 90 0 0 [.ref n0, .int (iI o)] [(n0, oX12 th dp my sm st sz mo ms yb hpk pkr rt rk rx hsh si gt va vn wd wa re ua pkk pxx bp mk bi pl cd rn rch rtn rdp rki rea rby rsh), (re, aL g 400 rs), (ua, aL g 400 U)] (fun vv ww => ∃ (r bp2 pk2 px2 : Int), vv = some (.long (lI r)) ∧ ww = [(n0, oX12 th dp my sm st sz mo ms yb hpk pkr rt rk rx hsh si gt va vn wd wa re ua pk2 px2 bp2 mk bi pl cd rn rch rtn rdp rki rea rby rsh), (re, aL g 400 rs), (ua, aL g 400 U)] ∧ r = (pMin (lvB U vn o) (finF vn o).toNat).1 ∧ bp2 = (pMin (lvB U vn o) (finF vn o).toNat).2) := by
  refine Ctr.of [(0, .ref n0), (1, .int (iI o))] (by decide) (Nat.le_of_ble_eq_true rfl) rfl ?_
  intro x hxl hxg jb jr hin
  subst hxl; subst hxg
  have hfi := finF_is vn o
  have hf0 := hfi.1
  have hf4 := hfi.2.1
  refine j_ldc2 (z := 1000000000) jb q_X12_115 rfl dX12_restBits_0 ?_
  refine j_lstore_n (lv' := [(2, .long (lI 1000000000)), (0, .ref n0), (1, .int (iI o))]) jb dX12_restBits_3 rfl (by decide) rfl ?_
  refine j_iconst jb dX12_restBits_4 ?_
  refine j_istore (lv' := [(4, .int (iI 0)), (2, .long (lI 1000000000)), (0, .ref n0), (1, .int (iI o))]) jb dX12_restBits_5 (by decide) rfl ?_
  have L7 : ∀ (fu : Nat) (best p bp1 pk1 px1 : Int), (0 ≤ p ∧ p ≤ 5 ∧ (0 ≤ best ∧ best ≤ 1000000000) ∧ rInv (lvB U vn o) (finF vn o) p best bp1) → (5 - p).toNat < fu → JW x 0 0 7 [(0, .ref n0), (1, .int (iI o)), (2, .long (lI best)), (4, .int (iI p))] [] [(n0, oX12 th dp my sm st sz mo ms yb hpk pkr rt rk rx hsh si gt va vn wd wa re ua pk1 px1 bp1 mk bi pl cd rn rch rtn rdp rki rea rby rsh), (re, aL x.g 400 rs), (ua, aL x.g 400 U)] := by
    intro fu
    induction fu with
    | zero => intro best p bp1 pk1 px1 _ hm; exact absurd hm (by omega)
    | succ fu ih =>
      intro best p bp1 pk1 px1 ⟨hp1, hp2, hp3, hp4⟩ hm7
      have ih7 := ih
      clear ih
      refine j_iload jb dX12_restBits_7 3 rfl ?_
      refine j_iconst jb dX12_restBits_9 ?_
      refine j_icmp_ge (tgt := 107) jb dX12_restBits_10 (by decide) (by omega) (by omega) (fun c_10 => ?_) (fun c_10 => ?_)
      · skip
        refine j_lload_n jb dX12_restBits_107 2 rfl ?_
        refine j_norm (lv' := []) (st' := [.long (lI best)]) (ws' := [(n0, oX12 th dp my sm st sz mo ms yb hpk pkr rt rk rx hsh si gt va vn wd wa re ua pk1 px1 bp1 mk bi pl cd rn rch rtn rdp rki rea rby rsh), (re, aL x.g 400 rs), (ua, aL x.g 400 U)]) [] [0, 1, 2] rfl rfl (by decide) rfl ?_
        exact j_lret jb jr dX12_restBits_108 ⟨_, _, _, _, rfl, rfl, (rInv_end (by omega) hf4 hp4)⟩
      · skip
        refine j_aload_n jb dX12_restBits_13 0 rfl ?_
        refine j_iload jb dX12_restBits_14 3 rfl ?_
        refine j_iload_n jb dX12_restBits_16 1 rfl ?_
        refine j_callV (wr := [(re, aL x.g 400 rs), (ua, aL x.g 400 U)]) jb k_X12_mayPart i_X12_mayPart s_X12_mayPart l_X12_129 (C_X12_mayPart x.l x.g n0 my sm st yb pkr rt rk rx si gt va re ua mk rki rea rby th dp sz mo ms hpk hsh vn wd wa pk1 px1 bp1 bi pl cd rn rch rtn rdp rsh p o (by omega) (by omega) (by omega)) 0 14 rfl rfl rfl [0] [1, 2] (by decide) rfl rfl (by decide) (by decide) rfl rfl (Nat.le_of_ble_eq_true rfl) (by decide) dX12_restBits_17 (fun v w hp => ?_)
        obtain ⟨rm, rfl, rfl, h17⟩ := hp
        refine j_norm (lv' := [(0, .ref n0), (1, .int (iI o)), (2, .long (lI best)), (4, .int (iI p))]) (st' := [.int (iI rm)]) (ws' := [(n0, oX12 th dp my sm st sz mo ms yb hpk pkr rt rk rx hsh si gt va vn wd wa re ua pk1 px1 bp1 mk bi pl cd rn rch rtn rdp rki rea rby rsh), (re, aL x.g 400 rs), (ua, aL x.g 400 U)]) [0, 1, 2, 3] [2, 0, 1] rfl rfl (by decide) rfl ?_
        refine j_if_eq (tgt := 101) jb dX12_restBits_20 (by decide) (by omega) (fun c_20 => ?_) (fun c_20 => ?_)
        · skip
          refine j_iinc (lv' := [(4, .int (iI (p + 1))), (0, .ref n0), (1, .int (iI o)), (2, .long (lI best))]) jb dX12_restBits_101 3 rfl (by decide) rfl ?_
          refine j_goto (tgt := 7) jb dX12_restBits_104 (by decide) ?_
          refine j_norm (lv' := [(0, .ref n0), (1, .int (iI o)), (2, .long (lI best)), (4, .int (iI (p + 1)))]) (st' := []) (ws' := [(n0, oX12 th dp my sm st sz mo ms yb hpk pkr rt rk rx hsh si gt va vn wd wa re ua pk1 px1 bp1 mk bi pl cd rn rch rtn rdp rki rea rby rsh), (re, aL x.g 400 rs), (ua, aL x.g 400 U)]) [1, 2, 3, 0] [0, 1, 2] rfl rfl (by decide) rfl ?_
          exact ih7 best (p + 1) bp1 pk1 px1 (by first | exact ⟨by omega, by omega, by omega, rInv_skip hf0 (fun z => h17.elim (fun q => absurd q.1 (by omega)) (fun q => q.2 ((may_fin rfl ho (by omega)).mpr z))) hp4⟩ | exact ⟨by omega, by omega, by omega, rInv_new hp1 hmf hp4 hlv (by omega)⟩ | exact ⟨by omega, by omega, by omega, rInv_old hp1 hmf hp4 hlv (by omega) (by omega)⟩) (by omega)
        · skip
          have hm : may vn o p := h17.elim (fun q => q.2) (fun q => absurd q.1 c_20)
          have hmf := (may_fin rfl ho (by omega)).mp hm
          have hff := fin_facts hn.1 ho hfi (p := p) ⟨hp1, hmf⟩
          refine j_ldc2 (z := 3) jb q_X12_103 rfl dX12_restBits_23 ?_
          refine j_lstore (lv' := [(5, .long (lI 3)), (0, .ref n0), (1, .int (iI o)), (2, .long (lI best)), (4, .int (iI p))]) jb dX12_restBits_26 (by decide) rfl ?_
          refine j_aload_n jb dX12_restBits_28 1 rfl ?_
          refine j_get jb f_X12_92 dX12_restBits_29 0 rfl rfl ?_
          refine j_iload jb dX12_restBits_32 4 rfl ?_
          refine j_ishr jb dX12_restBits_34 (by omega) (by omega) ?_
          refine j_istore (lv' := [(7, .int (iI (vn / 2 ^ p.toNat))), (5, .long (lI 3)), (0, .ref n0), (1, .int (iI o)), (2, .long (lI best)), (4, .int (iI p))]) jb dX12_restBits_35 (by decide) rfl ?_
          refine j_iconst jb dX12_restBits_37 ?_
          refine j_istore (lv' := [(8, .int (iI 0)), (7, .int (iI (vn / 2 ^ p.toNat))), (5, .long (lI 3)), (0, .ref n0), (1, .int (iI o)), (2, .long (lI best)), (4, .int (iI p))]) jb dX12_restBits_38 (by decide) rfl ?_
          have L40 : ∀ (fu : Nat) (bt j pk3 px3 : Int), (0 ≤ j ∧ j ≤ 2 ^ p.toNat ∧ bt = 3 + psum U o (vn / 2 ^ p.toNat) j.toNat ∧ (0 ≤ bt ∧ bt ≤ 3 + j * 9609)) → (2 ^ p.toNat - j).toNat < fu → JW x 0 0 40 [(0, .ref n0), (1, .int (iI o)), (2, .long (lI best)), (4, .int (iI p)), (5, .long (lI bt)), (7, .int (iI (vn / 2 ^ p.toNat))), (8, .int (iI j))] [] [(n0, oX12 th dp my sm st sz mo ms yb hpk pkr rt rk rx hsh si gt va vn wd wa re ua pk3 px3 bp1 mk bi pl cd rn rch rtn rdp rki rea rby rsh), (re, aL x.g 400 rs), (ua, aL x.g 400 U)] := by
            intro fu
            induction fu with
            | zero => intro bt j pk3 px3 _ hm; exact absurd hm (by omega)
            | succ fu ih =>
              intro bt j pk3 px3 ⟨hj1, hj2, hj3, hj4⟩ hm40
              have ih40 := ih
              clear ih
              refine j_iload jb dX12_restBits_40 6 rfl ?_
              refine j_iconst jb dX12_restBits_42 ?_
              refine j_iload jb dX12_restBits_43 3 rfl ?_
              refine j_ishl jb dX12_restBits_45 (by omega) ?_
              refine j_icmp_ge (tgt := 85) jb dX12_restBits_46 (by decide) (by omega) (by omega) (fun c_46 => ?_) (fun c_46 => ?_)
              · skip
                have hlv : bt = (lvB U vn o) p.toNat := by (rw [hj3, show j.toNat = 2 ^ p.toNat from pw_nat (by omega)]; rfl)
                refine j_lload jb dX12_restBits_85 4 rfl ?_
                refine j_lload_n jb dX12_restBits_87 2 rfl ?_
                refine j_lcmp_ge (tgt := 101) jb dX12_restBits_88 dX12_restBits_89 (by decide) (by omega) (by omega) (fun c_88 => ?_) (fun c_88 => ?_)
                · skip
                  refine j_iinc (lv' := [(4, .int (iI (p + 1))), (0, .ref n0), (1, .int (iI o)), (2, .long (lI best)), (5, .long (lI bt)), (7, .int (iI (vn / 2 ^ p.toNat))), (8, .int (iI j))]) jb dX12_restBits_101 3 rfl (by decide) rfl ?_
                  refine j_goto (tgt := 7) jb dX12_restBits_104 (by decide) ?_
                  refine j_norm (lv' := [(0, .ref n0), (1, .int (iI o)), (2, .long (lI best)), (4, .int (iI (p + 1)))]) (st' := []) (ws' := [(n0, oX12 th dp my sm st sz mo ms yb hpk pkr rt rk rx hsh si gt va vn wd wa re ua pk3 px3 bp1 mk bi pl cd rn rch rtn rdp rki rea rby rsh), (re, aL x.g 400 rs), (ua, aL x.g 400 U)]) [1, 2, 3, 0] [0, 1, 2] rfl rfl (by decide) rfl ?_
                  exact ih7 best (p + 1) bp1 pk3 px3 (by first | exact ⟨by omega, by omega, by omega, rInv_skip hf0 (fun z => h17.elim (fun q => absurd q.1 (by omega)) (fun q => q.2 ((may_fin rfl ho (by omega)).mpr z))) hp4⟩ | exact ⟨by omega, by omega, by omega, rInv_new hp1 hmf hp4 hlv (by omega)⟩ | exact ⟨by omega, by omega, by omega, rInv_old hp1 hmf hp4 hlv (by omega) (by omega)⟩) (by omega)
                · skip
                  refine j_lload jb dX12_restBits_92 4 rfl ?_
                  refine j_lstore_n (lv' := [(2, .long (lI bt)), (0, .ref n0), (1, .int (iI o)), (4, .int (iI p)), (5, .long (lI bt)), (7, .int (iI (vn / 2 ^ p.toNat))), (8, .int (iI j))]) jb dX12_restBits_94 rfl (by decide) rfl ?_
                  refine j_aload_n jb dX12_restBits_95 1 rfl ?_
                  refine j_iload jb dX12_restBits_96 3 rfl ?_
                  refine j_put (ws' := [(n0, oX12 th dp my sm st sz mo ms yb hpk pkr rt rk rx hsh si gt va vn wd wa re ua pk3 px3 p mk bi pl cd rn rch rtn rdp rki rea rby rsh), (re, aL x.g 400 rs), (ua, aL x.g 400 U)]) jb f_X12_136 w_X12_25 rfl dX12_restBits_98 0 rfl rfl rfl (Nat.le_of_ble_eq_true rfl) rfl ?_
                  refine j_iinc (lv' := [(4, .int (iI (p + 1))), (2, .long (lI bt)), (0, .ref n0), (1, .int (iI o)), (5, .long (lI bt)), (7, .int (iI (vn / 2 ^ p.toNat))), (8, .int (iI j))]) jb dX12_restBits_101 3 rfl (by decide) rfl ?_
                  refine j_goto (tgt := 7) jb dX12_restBits_104 (by decide) ?_
                  refine j_norm (lv' := [(0, .ref n0), (1, .int (iI o)), (2, .long (lI bt)), (4, .int (iI (p + 1)))]) (st' := []) (ws' := [(n0, oX12 th dp my sm st sz mo ms yb hpk pkr rt rk rx hsh si gt va vn wd wa re ua pk3 px3 p mk bi pl cd rn rch rtn rdp rki rea rby rsh), (re, aL x.g 400 rs), (ua, aL x.g 400 U)]) [2, 3, 1, 0] [0, 1, 2] rfl rfl (by decide) rfl ?_
                  exact ih7 bt (p + 1) p pk3 px3 (by first | exact ⟨by omega, by omega, by omega, rInv_skip hf0 (fun z => h17.elim (fun q => absurd q.1 (by omega)) (fun q => q.2 ((may_fin rfl ho (by omega)).mpr z))) hp4⟩ | exact ⟨by omega, by omega, by omega, rInv_new hp1 hmf hp4 hlv (by omega)⟩ | exact ⟨by omega, by omega, by omega, rInv_old hp1 hmf hp4 hlv (by omega) (by omega)⟩) (by omega)
              · skip
                refine j_lload jb dX12_restBits_49 4 rfl ?_
                refine j_aload_n jb dX12_restBits_51 0 rfl ?_
                refine j_iload jb dX12_restBits_52 6 rfl ?_
                have J66 : ∀ (fr : Int), fr = pst o (vn / 2 ^ p.toNat) j → JW x 0 0 66 [(0, .ref n0), (1, .int (iI o)), (2, .long (lI best)), (4, .int (iI p)), (5, .long (lI bt)), (7, .int (iI (vn / 2 ^ p.toNat))), (8, .int (iI j))] [.int (iI fr), .ref n0, .long (lI bt)] [(n0, oX12 th dp my sm st sz mo ms yb hpk pkr rt rk rx hsh si gt va vn wd wa re ua pk3 px3 bp1 mk bi pl cd rn rch rtn rdp rki rea rby rsh), (re, aL x.g 400 rs), (ua, aL x.g 400 U)] := by
                  intro fr hfr
                  have hpr := prange (n := vn) (o := o) (each := (vn / 2 ^ p.toNat)) (c := 2 ^ p.toNat) (j := j) ⟨ho.1, hff.1.1⟩ hff.1.2.1 ⟨hj1, by omega⟩
                  have hpe := pend o (vn / 2 ^ p.toNat) j
                  refine j_iload jb dX12_restBits_66 6 rfl ?_
                  refine j_iconst jb dX12_restBits_68 ?_
                  refine j_iadd jb dX12_restBits_69 ?_
                  refine j_iload jb dX12_restBits_70 5 rfl ?_
                  refine j_imul jb dX12_restBits_72 ?_
                  refine j_callV (wr := []) jb k_X12_partBits i_X12_partBits s_X12_partBits l_X12_133 (C_X12_partBits x.l x.g n0 my sm st yb pkr rt rk rx si gt va re ua mk rki rea rby th dp sz mo ms hpk hsh vn wd wa pk3 px3 bp1 bi pl cd rn rch rtn rdp rsh fr ((j + 1) * (vn / 2 ^ p.toNat)) rs U (by omega) (fun i a b => hU i (by omega) (by omega)) (fun i a b => hrs i (by omega) (by omega))) 0 14 rfl rfl rfl [0, 1, 2] [] (by decide) rfl rfl (by decide) (by decide) rfl rfl (Nat.le_of_ble_eq_true rfl) (by decide) dX12_restBits_73 (fun v w hp => ?_)
                  obtain ⟨r3, pk4, px4, rfl, rfl, h73⟩ := hp
                  refine j_norm (lv' := [(0, .ref n0), (1, .int (iI o)), (2, .long (lI best)), (4, .int (iI p)), (5, .long (lI bt)), (7, .int (iI (vn / 2 ^ p.toNat))), (8, .int (iI j))]) (st' := [.long (lI r3), .long (lI bt)]) (ws' := [(n0, oX12 th dp my sm st sz mo ms yb hpk pkr rt rk rx hsh si gt va vn wd wa re ua pk4 px4 bp1 mk bi pl cd rn rch rtn rdp rki rea rby rsh), (re, aL x.g 400 rs), (ua, aL x.g 400 U)]) [0, 1, 2, 3, 4, 5, 6] [0, 1, 2] rfl rfl (by decide) rfl ?_
                  have e9 : (j + 1) * (vn / 2 ^ p.toNat) - fr = pln o (vn / 2 ^ p.toNat) j := by omega
                  have hps : r3 = (pS U o (vn / 2 ^ p.toNat) j).1 := by (have z := h73.1; rw [e9, hfr] at z; exact z)
                  refine j_ladd jb dX12_restBits_76 ?_
                  refine j_lstore (lv' := [(5, .long (lI (bt + r3))), (0, .ref n0), (1, .int (iI o)), (2, .long (lI best)), (4, .int (iI p)), (7, .int (iI (vn / 2 ^ p.toNat))), (8, .int (iI j))]) jb dX12_restBits_77 (by decide) rfl ?_
                  refine j_iinc (lv' := [(8, .int (iI (j + 1))), (5, .long (lI (bt + r3))), (0, .ref n0), (1, .int (iI o)), (2, .long (lI best)), (4, .int (iI p)), (7, .int (iI (vn / 2 ^ p.toNat)))]) jb dX12_restBits_79 6 rfl (by decide) rfl ?_
                  refine j_goto (tgt := 40) jb dX12_restBits_82 (by decide) ?_
                  refine j_norm (lv' := [(0, .ref n0), (1, .int (iI o)), (2, .long (lI best)), (4, .int (iI p)), (5, .long (lI (bt + r3))), (7, .int (iI (vn / 2 ^ p.toNat))), (8, .int (iI (j + 1)))]) (st' := []) (ws' := [(n0, oX12 th dp my sm st sz mo ms yb hpk pkr rt rk rx hsh si gt va vn wd wa re ua pk4 px4 bp1 mk bi pl cd rn rch rtn rdp rki rea rby rsh), (re, aL x.g 400 rs), (ua, aL x.g 400 U)]) [2, 3, 4, 5, 1, 6, 0] [0, 1, 2] rfl rfl (by decide) rfl ?_
                  exact ih40 (bt + r3) (j + 1) pk4 px4 ⟨by omega, by omega, psum_next hj1 hj3 hps, by omega⟩ (by omega)
                refine j_if_ne (tgt := 61) jb dX12_restBits_54 (by decide) (by omega) (fun c_54 => ?_) (fun c_54 => ?_)
                · skip
                  refine j_iload jb dX12_restBits_61 6 rfl ?_
                  refine j_iload jb dX12_restBits_63 5 rfl ?_
                  refine j_imul jb dX12_restBits_65 ?_
                  refine j_norm (lv' := [(0, .ref n0), (1, .int (iI o)), (2, .long (lI best)), (4, .int (iI p)), (5, .long (lI bt)), (7, .int (iI (vn / 2 ^ p.toNat))), (8, .int (iI j))]) (st' := [.int (iI (j * (vn / 2 ^ p.toNat))), .ref n0, .long (lI bt)]) (ws' := [(n0, oX12 th dp my sm st sz mo ms yb hpk pkr rt rk rx hsh si gt va vn wd wa re ua pk3 px3 bp1 mk bi pl cd rn rch rtn rdp rki rea rby rsh), (re, aL x.g 400 rs), (ua, aL x.g 400 U)]) [0, 1, 2, 3, 4, 5, 6] [0, 1, 2] rfl rfl (by decide) rfl ?_
                  exact J66 (j * (vn / 2 ^ p.toNat)) (by unfold pst; first | (rw [if_pos c_54]; done) | (rw [if_neg c_54]; done))
                · skip
                  refine j_iload_n jb dX12_restBits_57 1 rfl ?_
                  refine j_goto (tgt := 66) jb dX12_restBits_58 (by decide) ?_
                  refine j_norm (lv' := [(0, .ref n0), (1, .int (iI o)), (2, .long (lI best)), (4, .int (iI p)), (5, .long (lI bt)), (7, .int (iI (vn / 2 ^ p.toNat))), (8, .int (iI j))]) (st' := [.int (iI o), .ref n0, .long (lI bt)]) (ws' := [(n0, oX12 th dp my sm st sz mo ms yb hpk pkr rt rk rx hsh si gt va vn wd wa re ua pk3 px3 bp1 mk bi pl cd rn rch rtn rdp rki rea rby rsh), (re, aL x.g 400 rs), (ua, aL x.g 400 U)]) [0, 1, 2, 3, 4, 5, 6] [0, 1, 2] rfl rfl (by decide) rfl ?_
                  exact J66 o (by unfold pst; first | (rw [if_pos c_54]; done) | (rw [if_neg c_54]; done))
          refine j_norm (lv' := [(0, .ref n0), (1, .int (iI o)), (2, .long (lI best)), (4, .int (iI p)), (5, .long (lI 3)), (7, .int (iI (vn / 2 ^ p.toNat))), (8, .int (iI 0))]) (st' := []) (ws' := [(n0, oX12 th dp my sm st sz mo ms yb hpk pkr rt rk rx hsh si gt va vn wd wa re ua pk1 px1 bp1 mk bi pl cd rn rch rtn rdp rki rea rby rsh), (re, aL x.g 400 rs), (ua, aL x.g 400 U)]) [3, 4, 5, 6, 2, 1, 0] [0, 1, 2] rfl rfl (by decide) rfl ?_
          exact L40 _ 3 0 pk1 px1 ⟨by decide, by omega, rfl, by decide⟩ (Nat.lt_succ_self _)
  refine j_norm (lv' := [(0, .ref n0), (1, .int (iI o)), (2, .long (lI 1000000000)), (4, .int (iI 0))]) (st' := []) (ws' := [(n0, oX12 th dp my sm st sz mo ms yb hpk pkr rt rk rx hsh si gt va vn wd wa re ua pkk pxx bp mk bi pl cd rn rch rtn rdp rki rea rby rsh), (re, aL x.g 400 rs), (ua, aL x.g 400 U)]) [2, 3, 1, 0] [0, 1, 2] rfl rfl (by decide) rfl ?_
  exact L7 _ 1000000000 0 bp pkk pxx ⟨by decide, by decide, by decide, Or.inl ⟨rfl, rfl⟩⟩ (Nat.lt_succ_self _)

set_option maxHeartbeats 4000000 in
set_option maxRecDepth 100000 in
theorem C_X12_bitsOf (l : Launch) (g : GG) (n0 my sm st yb pkr rt rk rx si gt va re ua mk rki rea rby : Nat) (th dp sz mo ms hpk hsh vn wd wa pkk pxx bp bi pl cd rn rch rtn rdp rsh : Int) (kind : Int) (val oc rs U : Int → Int) (hn : 1 ≤ vn ∧ vn ≤ 400) (hwd : 1 ≤ wd ∧ wd ≤ 17) (hv9 : vOk val vn) (hoo : 0 ≤ mo ∧ mo ≤ 4) (hos : 0 ≤ ms ∧ ms ≤ 15) (hcf : cfOk oc) (hk : 0 ≤ kind ∧ kind ≤ 7) : Ctr l g yX12_bitsOf cX12_bitsOf 5 (some .long) 4 120 0 0 [.ref n0, .int (iI kind)] [(n0, oX12 th dp my sm st sz mo ms yb hpk pkr rt rk rx hsh si gt va vn wd wa re ua pkk pxx bp mk bi pl cd rn rch rtn rdp rki rea rby rsh), (va, aI g 400 val), (yb, aI g 4 oc), (re, aL g 400 rs), (ua, aL g 400 U)] (fun vv ww => ∃ (r bp2 pk2 px2 : Int) (rs2 U2 : Int → Int), vv = some (.long (lI r)) ∧ ww = [(n0, oX12 th dp my sm st sz mo ms yb hpk pkr rt rk rx hsh si gt va vn wd wa re ua pk2 px2 bp2 mk bi pl cd rn rch rtn rdp rki rea rby rsh), (va, aI g 400 val), (yb, aI g 4 oc), (re, aL g 400 rs2), (ua, aL g 400 U2)] ∧ isPr (price val vn wd mo ms oc kind) r ∧ (2 ≤ kind → ¬ (price val vn wd mo ms oc kind) = -1 → bp2 = rowPp (kU val mo ms oc kind) vn (kO mo kind) ∧ upOk val mo ms oc kind vn rs2 U2)) := by
  refine Ctr.of [(0, .ref n0), (1, .int (iI kind))] (by decide) (Nat.le_of_ble_eq_true rfl) rfl ?_
  intro x hxl hxg jb jr hin
  subst hxl; subst hxg
  have hnw := mul_in (A := 400) (C := 17) (a := vn) (b := wd) (by omega) (by omega) (by decide)
  have hnw0 : 0 ≤ vn * wd := Int.mul_nonneg (by omega) (by omega)
  refine j_iload_n jb dX12_bitsOf_0 1 rfl ?_
  refine j_if_ne (tgt := 67) jb dX12_bitsOf_1 (by decide) (by omega) (fun c_1 => ?_) (fun c_1 => ?_)
  · skip
    refine j_iload_n jb dX12_bitsOf_67 1 rfl ?_
    refine j_iconst jb dX12_bitsOf_68 ?_
    refine j_icmp_ne (tgt := 88) jb dX12_bitsOf_69 (by decide) (by omega) (by omega) (fun c_69 => ?_) (fun c_69 => ?_)
    · skip
      refine j_aload_n jb dX12_bitsOf_88 0 rfl ?_
      refine j_iload_n jb dX12_bitsOf_89 1 rfl ?_
      refine j_callV (wr := [(va, aI x.g 400 val), (yb, aI x.g 4 oc), (re, aL x.g 400 rs), (ua, aL x.g 400 U)]) jb k_X12_orderOf i_X12_orderOf s_X12_orderOf l_X12_141 (C_X12_orderOf x.l x.g n0 my sm st yb pkr rt rk rx si gt va re ua mk rki rea rby th dp sz mo ms hpk hsh vn wd wa pkk pxx bp bi pl cd rn rch rtn rdp rsh kind (by omega)) 0 14 rfl rfl rfl [0] [1, 2, 3, 4] (by decide) rfl rfl (by decide) (by decide) rfl rfl (Nat.le_of_ble_eq_true rfl) (by decide) dX12_bitsOf_90 (fun v w hp => ?_)
      obtain ⟨o, rfl, rfl, h90⟩ := hp
      refine j_norm (lv' := [(0, .ref n0), (1, .int (iI kind))]) (st' := [.int (iI o)]) (ws' := [(n0, oX12 th dp my sm st sz mo ms yb hpk pkr rt rk rx hsh si gt va vn wd wa re ua pkk pxx bp mk bi pl cd rn rch rtn rdp rki rea rby rsh), (va, aI x.g 400 val), (yb, aI x.g 4 oc), (re, aL x.g 400 rs), (ua, aL x.g 400 U)]) [0, 1] [4, 0, 1, 2, 3] rfl rfl (by decide) rfl ?_
      refine j_istore_n (lv' := [(2, .int (iI o)), (0, .ref n0), (1, .int (iI kind))]) jb dX12_bitsOf_93 rfl (by decide) rfl ?_
      have ho : o = (kO mo kind) := by (unfold kO; (by_cases z : kind = 7); { rw [if_pos z]; exact h90.2.2 z }; { rw [if_neg z]; exact h90.2.1 (by omega) (by omega) })
      have ho5 := kO_5 hoo (show 2 ≤ kind ∧ kind ≤ 7 by omega)
      rw [← ho] at ho5
      refine j_iload_n jb dX12_bitsOf_94 0 rfl ?_
      refine j_aload_n jb dX12_bitsOf_95 1 rfl ?_
      refine j_get jb f_X12_92 dX12_bitsOf_96 0 rfl rfl ?_
      refine j_icmp_gt (tgt := 112) jb dX12_bitsOf_99 (by decide) (by omega) (by omega) (fun c_99 => ?_) (fun c_99 => ?_)
      · skip
        refine j_ldc2 (z := 1000000000) jb q_X12_115 rfl dX12_bitsOf_112 ?_
        refine j_norm (lv' := []) (st' := [.long (lI 1000000000)]) (ws' := [(n0, oX12 th dp my sm st sz mo ms yb hpk pkr rt rk rx hsh si gt va vn wd wa re ua pkk pxx bp mk bi pl cd rn rch rtn rdp rki rea rby rsh), (va, aI x.g 400 val), (yb, aI x.g 4 oc), (re, aL x.g 400 rs), (ua, aL x.g 400 U)]) [] [0, 1, 2, 3, 4] rfl rfl (by decide) rfl ?_
        exact j_lret jb jr dX12_bitsOf_115 ⟨_, _, _, _, _, _, rfl, rfl, (by first | exact ⟨Or.inl ⟨price_no (by omega) (Or.inr (by omega)), rfl⟩, fun _ q => absurd (price_no (by omega) (Or.inr (by omega))) q⟩ | exact ⟨Or.inl ⟨price_no (by omega) (Or.inl (fun q => absurd q.1 (by omega))), rfl⟩, fun _ q => absurd (price_no (by omega) (Or.inl (fun q => absurd q.1 (by omega)))) q⟩)⟩
      · skip
        refine j_iload_n jb dX12_bitsOf_102 2 rfl ?_
        refine j_bipush jb dX12_bitsOf_103 (by decide) ?_
        refine j_icmp_ne (tgt := 116) jb dX12_bitsOf_105 (by decide) (by omega) (by omega) (fun c_105 => ?_) (fun c_105 => ?_)
        · skip
          have h7 : ¬ (kind = 7 ∧ mo = 0) := by omega
          refine j_iconst jb dX12_bitsOf_116 ?_
          refine j_istore_n (lv' := [(3, .int (iI 1)), (2, .int (iI o)), (0, .ref n0), (1, .int (iI kind))]) jb dX12_bitsOf_117 rfl (by decide) rfl ?_
          refine j_iload_n jb dX12_bitsOf_118 1 rfl ?_
          refine j_istore (lv' := [(4, .int (iI o)), (3, .int (iI 1)), (2, .int (iI o)), (0, .ref n0), (1, .int (iI kind))]) jb dX12_bitsOf_119 (by decide) rfl ?_
          have L121 : ∀ (fu : Nat) (mf i : Int) (rs1 U1 : Int → Int), (o ≤ i ∧ i ≤ vn ∧ (∀ q, o ≤ q → q < i → U1 q = (kU val mo ms oc kind) q ∧ rs1 q = val q - kF val mo ms oc kind q) ∧ mayI (kU val mo ms oc kind) o i mf ∧ (0 ≤ mf ∧ mf ≤ 1)) → (vn - i).toNat < fu → JW x 0 0 121 [(0, .ref n0), (1, .int (iI kind)), (2, .int (iI o)), (3, .int (iI mf)), (4, .int (iI i))] [] [(n0, oX12 th dp my sm st sz mo ms yb hpk pkr rt rk rx hsh si gt va vn wd wa re ua pkk pxx bp mk bi pl cd rn rch rtn rdp rki rea rby rsh), (va, aI x.g 400 val), (yb, aI x.g 4 oc), (re, aL x.g 400 rs1), (ua, aL x.g 400 U1)] := by
            intro fu
            induction fu with
            | zero => intro mf i rs1 U1 _ hm; exact absurd hm (by omega)
            | succ fu ih =>
              intro mf i rs1 U1 ⟨hi1, hi2, hi3, hi4, hmf⟩ hm121
              have ih121 := ih
              clear ih
              refine j_iload jb dX12_bitsOf_121 4 rfl ?_
              refine j_aload_n jb dX12_bitsOf_123 0 rfl ?_
              refine j_get jb f_X12_92 dX12_bitsOf_124 0 rfl rfl ?_
              refine j_icmp_ge (tgt := 229) jb dX12_bitsOf_127 (by decide) (by omega) (by omega) (fun c_127 => ?_) (fun c_127 => ?_)
              · skip
                refine j_iload_n jb dX12_bitsOf_229 3 rfl ?_
                refine j_if_eq (tgt := 273) jb dX12_bitsOf_230 (by decide) (by omega) (fun c_230 => ?_) (fun c_230 => ?_)
                · skip
                  refine j_ldc2 (z := 1000000000) jb q_X12_115 rfl dX12_bitsOf_273 ?_
                  refine j_norm (lv' := []) (st' := [.long (lI 1000000000)]) (ws' := [(n0, oX12 th dp my sm st sz mo ms yb hpk pkr rt rk rx hsh si gt va vn wd wa re ua pkk pxx bp mk bi pl cd rn rch rtn rdp rki rea rby rsh), (va, aI x.g 400 val), (yb, aI x.g 4 oc), (re, aL x.g 400 rs1), (ua, aL x.g 400 U1)]) [] [0, 1, 2, 3, 4] rfl rfl (by decide) rfl ?_
                  exact j_lret jb jr dX12_bitsOf_276 ⟨_, _, _, _, _, _, rfl, rfl, (by first | exact ⟨Or.inl ⟨price_no (by omega) (Or.inl (fun q => Or.elim hi4 (fun z => absurd z.1 (by omega)) (fun z => z.2.elim (fun t y => y.2.2 (q.2 t (by omega) (by omega)))))), rfl⟩, fun _ q => absurd (price_no (by omega) (Or.inl (fun q => Or.elim hi4 (fun z => absurd z.1 (by omega)) (fun z => z.2.elim (fun t y => y.2.2 (q.2 t (by omega) (by omega))))))) q⟩ | exact ⟨Or.inr ⟨by rw [hpy, ← hex.1]; omega, by rw [hpy, h266.1, ← hex.1]; omega⟩, fun _ _ => ⟨by unfold rowPp; rw [← ho]; exact h266.2, hup⟩⟩)⟩
                · skip
                  have hall : allU (kU val mo ms oc kind) (kO mo kind) vn := fun q a b => Or.elim hi4 (fun z => z.2 q (by omega) (by omega)) (fun z => absurd z.1 c_230)
                  have hki := kU_in hall
                  have heq : eqOn (kU val mo ms oc kind) U1 o vn := fun q a b => (hi3 q a (by omega)).1.symm
                  have how0 : 0 ≤ o * wd := Int.mul_nonneg (by omega) (by omega)
                  have how := mul_in (A := 4) (C := 17) (a := o) (b := wd) (by omega) (by omega) (by decide)
                  have hup : upOk val mo ms oc kind vn rs1 U1 := fun q a b => hi3 q (by omega) (by omega)
                  refine j_ldc2 (z := 7) jb q_X12_139 rfl dX12_bitsOf_233 ?_
                  refine j_iload_n jb dX12_bitsOf_236 1 rfl ?_
                  refine j_bipush jb dX12_bitsOf_237 (by decide) ?_
                  have J253 : ∀ (ex : Int), (ex = (if kind = 7 then 6 + mo * 10 else 0) ∧ (0 ≤ ex ∧ ex ≤ 46)) → JW x 0 0 253 [(0, .ref n0), (1, .int (iI kind)), (2, .int (iI o)), (3, .int (iI mf)), (4, .int (iI i))] [.int (iI ex), .long (lI 7)] [(n0, oX12 th dp my sm st sz mo ms yb hpk pkr rt rk rx hsh si gt va vn wd wa re ua pkk pxx bp mk bi pl cd rn rch rtn rdp rki rea rby rsh), (va, aI x.g 400 val), (yb, aI x.g 4 oc), (re, aL x.g 400 rs1), (ua, aL x.g 400 U1)] := by
                    intro ex hex
                    refine j_i2l jb dX12_bitsOf_253 (by omega) ?_
                    refine j_ladd jb dX12_bitsOf_254 ?_
                    refine j_iload_n jb dX12_bitsOf_255 2 rfl ?_
                    refine j_i2l jb dX12_bitsOf_256 (by omega) ?_
                    refine j_aload_n jb dX12_bitsOf_257 0 rfl ?_
                    refine j_get jb f_X12_98 dX12_bitsOf_258 0 rfl rfl ?_
                    refine j_i2l jb dX12_bitsOf_261 (by omega) ?_
                    refine j_lmul jb dX12_bitsOf_262 ?_
                    refine j_ladd jb dX12_bitsOf_263 ?_
                    refine j_aload_n jb dX12_bitsOf_264 0 rfl ?_
                    refine j_iload_n jb dX12_bitsOf_265 2 rfl ?_
                    refine j_callV (wr := [(va, aI x.g 400 val), (yb, aI x.g 4 oc)]) jb k_X12_restBits i_X12_restBits s_X12_restBits l_X12_152 (C_X12_restBits x.l x.g n0 my sm st yb pkr rt rk rx si gt va re ua mk rki rea rby th dp sz mo ms hpk hsh vn wd wa pkk pxx bp bi pl cd rn rch rtn rdp rsh o rs1 U1 (by omega) (by omega) (fun q a b => by rw [(hi3 q a (by omega)).1]; exact hki q (by omega) b) (fun q a b => by rw [(hi3 q a (by omega)).1, (hi3 q a (by omega)).2, kU_kF])) 0 14 rfl rfl rfl [0, 3, 4] [1, 2] (by decide) rfl rfl (by decide) (by decide) rfl rfl (Nat.le_of_ble_eq_true rfl) (by decide) dX12_bitsOf_266 (fun v w hp => ?_)
                    obtain ⟨rb, bp3, pk3, px3, rfl, rfl, h266⟩ := hp
                    refine j_norm (lv' := [(0, .ref n0), (1, .int (iI kind)), (2, .int (iI o)), (3, .int (iI mf)), (4, .int (iI i))]) (st' := [.long (lI rb), .long (lI ((7 + ex) + (o * wd)))]) (ws' := [(n0, oX12 th dp my sm st sz mo ms yb hpk pkr rt rk rx hsh si gt va vn wd wa re ua pk3 px3 bp3 mk bi pl cd rn rch rtn rdp rki rea rby rsh), (va, aI x.g 400 val), (yb, aI x.g 4 oc), (re, aL x.g 400 rs1), (ua, aL x.g 400 U1)]) [0, 1, 2, 3, 4] [2, 0, 1, 3, 4] rfl rfl (by decide) rfl ?_
                    rw [← rowM_congr hn.1 (show 0 ≤ o ∧ o ≤ vn by omega) heq] at h266
                    have hpy := price_yes (b := wd) (by omega) h7 ⟨(by omega : (kO mo kind) ≤ vn), hall⟩
                    have hpm := (pm_in hn (show 0 ≤ o ∧ o ≤ vn by omega) (fun q a b => by rw [ho] at a; exact hki q a b)).1
                    rw [← ho] at hpy
                    refine j_ladd jb dX12_bitsOf_269 ?_
                    refine j_goto (tgt := 276) jb dX12_bitsOf_270 (by decide) ?_
                    refine j_norm (lv' := []) (st' := [.long (lI (((7 + ex) + (o * wd)) + rb))]) (ws' := [(n0, oX12 th dp my sm st sz mo ms yb hpk pkr rt rk rx hsh si gt va vn wd wa re ua pk3 px3 bp3 mk bi pl cd rn rch rtn rdp rki rea rby rsh), (va, aI x.g 400 val), (yb, aI x.g 4 oc), (re, aL x.g 400 rs1), (ua, aL x.g 400 U1)]) [] [0, 1, 2, 3, 4] rfl rfl (by decide) rfl ?_
                    exact j_lret jb jr dX12_bitsOf_276 ⟨_, _, _, _, _, _, rfl, rfl, (by first | exact ⟨Or.inl ⟨price_no (by omega) (Or.inl (fun q => Or.elim hi4 (fun z => absurd z.1 (by omega)) (fun z => z.2.elim (fun t y => y.2.2 (q.2 t (by omega) (by omega)))))), rfl⟩, fun _ q => absurd (price_no (by omega) (Or.inl (fun q => Or.elim hi4 (fun z => absurd z.1 (by omega)) (fun z => z.2.elim (fun t y => y.2.2 (q.2 t (by omega) (by omega))))))) q⟩ | exact ⟨Or.inr ⟨by rw [hpy, ← hex.1]; omega, by rw [hpy, h266.1, ← hex.1]; omega⟩, fun _ _ => ⟨by unfold rowPp; rw [← ho]; exact h266.2, hup⟩⟩)⟩
                  refine j_icmp_ne (tgt := 252) jb dX12_bitsOf_239 (by decide) (by omega) (by omega) (fun c_239 => ?_) (fun c_239 => ?_)
                  · skip
                    refine j_iconst jb dX12_bitsOf_252 ?_
                    refine j_norm (lv' := [(0, .ref n0), (1, .int (iI kind)), (2, .int (iI o)), (3, .int (iI mf)), (4, .int (iI i))]) (st' := [.int (iI 0), .long (lI 7)]) (ws' := [(n0, oX12 th dp my sm st sz mo ms yb hpk pkr rt rk rx hsh si gt va vn wd wa re ua pkk pxx bp mk bi pl cd rn rch rtn rdp rki rea rby rsh), (va, aI x.g 400 val), (yb, aI x.g 4 oc), (re, aL x.g 400 rs1), (ua, aL x.g 400 U1)]) [0, 1, 2, 3, 4] [0, 1, 2, 3, 4] rfl rfl (by decide) rfl ?_
                    exact J253 0 (by first | (rw [if_pos c_239]; omega) | (rw [if_neg c_239]; omega))
                  · skip
                    refine j_bipush jb dX12_bitsOf_242 (by decide) ?_
                    refine j_bipush jb dX12_bitsOf_244 (by decide) ?_
                    refine j_iload_n jb dX12_bitsOf_246 2 rfl ?_
                    refine j_imul jb dX12_bitsOf_247 ?_
                    refine j_iadd jb dX12_bitsOf_248 ?_
                    refine j_goto (tgt := 253) jb dX12_bitsOf_249 (by decide) ?_
                    refine j_norm (lv' := [(0, .ref n0), (1, .int (iI kind)), (2, .int (iI o)), (3, .int (iI mf)), (4, .int (iI i))]) (st' := [.int (iI (6 + (10 * o))), .long (lI 7)]) (ws' := [(n0, oX12 th dp my sm st sz mo ms yb hpk pkr rt rk rx hsh si gt va vn wd wa re ua pkk pxx bp mk bi pl cd rn rch rtn rdp rki rea rby rsh), (va, aI x.g 400 val), (yb, aI x.g 4 oc), (re, aL x.g 400 rs1), (ua, aL x.g 400 U1)]) [0, 1, 2, 3, 4] [0, 1, 2, 3, 4] rfl rfl (by decide) rfl ?_
                    exact J253 (6 + (10 * o)) (by first | (rw [if_pos c_239]; omega) | (rw [if_neg c_239]; omega))
              · skip
                have hvi := hv9 i (by omega) (by omega)
                refine j_aload_n jb dX12_bitsOf_130 0 rfl ?_
                refine j_get jb f_X12_50 dX12_bitsOf_131 0 rfl rfl ?_
                refine j_iload jb dX12_bitsOf_134 4 rfl ?_
                refine j_aload_n jb dX12_bitsOf_136 0 rfl ?_
                refine j_get jb f_X12_47 dX12_bitsOf_137 0 rfl rfl ?_
                refine j_iload jb dX12_bitsOf_140 4 rfl ?_
                refine j_iald jb dX12_bitsOf_142 1 rfl (by omega) (by decide) ?_
                refine j_i2l jb dX12_bitsOf_143 (by have := hv9 i (by omega) (by omega); omega) ?_
                refine j_aload_n jb dX12_bitsOf_144 0 rfl ?_
                refine j_iload_n jb dX12_bitsOf_145 1 rfl ?_
                refine j_iload jb dX12_bitsOf_146 4 rfl ?_
                refine j_callV (wr := [(re, aL x.g 400 rs1), (ua, aL x.g 400 U1)]) jb k_X12_foretold i_X12_foretold s_X12_foretold l_X12_145 (C_X12_foretold x.l x.g n0 my sm st yb pkr rt rk rx si gt va re ua mk rki rea rby th dp sz mo ms hpk hsh vn wd wa pkk pxx bp bi pl cd rn rch rtn rdp rsh kind i val oc (by omega) (by omega) (by omega) (fun j a b => hv9 j a (by omega)) (by omega) (by omega) hcf) 0 14 rfl rfl rfl [0, 1, 2] [3, 4] (by decide) rfl rfl (by decide) (by decide) rfl rfl (Nat.le_of_ble_eq_true rfl) (by decide) dX12_bitsOf_148 (fun v w hp => ?_)
                obtain ⟨rf, rfl, rfl, h148⟩ := hp
                refine j_norm (lv' := [(0, .ref n0), (1, .int (iI kind)), (2, .int (iI o)), (3, .int (iI mf)), (4, .int (iI i))]) (st' := [.long (lI rf), .long (lI (val i)), .int (iI i), .ref re]) (ws' := [(n0, oX12 th dp my sm st sz mo ms yb hpk pkr rt rk rx hsh si gt va vn wd wa re ua pkk pxx bp mk bi pl cd rn rch rtn rdp rki rea rby rsh), (va, aI x.g 400 val), (yb, aI x.g 4 oc), (re, aL x.g 400 rs1), (ua, aL x.g 400 U1)]) [0, 1, 2, 3, 4] [2, 3, 4, 0, 1] rfl rfl (by decide) rfl ?_
                have hkf := kF_in (v := val) (os := ms) (kind := kind) (i := i) (by omega) hoo (by omega) hcf (fun j a b => hv9 j a (by omega))
                rw [← h148] at hkf
                refine j_lsub jb dX12_bitsOf_151 ?_
                refine j_last (ws' := [(n0, oX12 th dp my sm st sz mo ms yb hpk pkr rt rk rx hsh si gt va vn wd wa re ua pkk pxx bp mk bi pl cd rn rch rtn rdp rki rea rby rsh), (va, aI x.g 400 val), (yb, aI x.g 4 oc), (re, aL x.g 400 (zup rs1 i ((val i) - rf))), (ua, aL x.g 400 U1)]) jb dX12_bitsOf_152 3 rfl (by omega) (by decide) rfl ?_
                refine j_aload_n jb dX12_bitsOf_153 0 rfl ?_
                refine j_get jb f_X12_54 dX12_bitsOf_154 0 rfl rfl ?_
                refine j_iload jb dX12_bitsOf_157 4 rfl ?_
                refine j_aload_n jb dX12_bitsOf_159 0 rfl ?_
                refine j_get jb f_X12_50 dX12_bitsOf_160 0 rfl rfl ?_
                refine j_iload jb dX12_bitsOf_163 4 rfl ?_
                refine j_lald jb dX12_bitsOf_165 3 rfl (by omega) (by decide) ?_
                refine j_topl (val i - rf) (by rw [zup_s]) ?_
                refine j_lconst (z := 0) jb dX12_bitsOf_166 rfl ?_
                have J198 : ∀ (u : Int), u = fld (val i - rf) → JW x 0 0 198 [(0, .ref n0), (1, .int (iI kind)), (2, .int (iI o)), (3, .int (iI mf)), (4, .int (iI i))] [.long (lI u), .int (iI i), .ref ua] [(n0, oX12 th dp my sm st sz mo ms yb hpk pkr rt rk rx hsh si gt va vn wd wa re ua pkk pxx bp mk bi pl cd rn rch rtn rdp rki rea rby rsh), (va, aI x.g 400 val), (yb, aI x.g 4 oc), (re, aL x.g 400 (zup rs1 i ((val i) - rf))), (ua, aL x.g 400 U1)] := by
                  intro u hu
                  have hui := fld_in (e := val i - rf) (by omega)
                  rw [← hu] at hui
                  have hku : (kU val mo ms oc kind) i = u := by (rw [kU_kF, ← h148, hu])
                  refine j_last (ws' := [(n0, oX12 th dp my sm st sz mo ms yb hpk pkr rt rk rx hsh si gt va vn wd wa re ua pkk pxx bp mk bi pl cd rn rch rtn rdp rki rea rby rsh), (va, aI x.g 400 val), (yb, aI x.g 4 oc), (re, aL x.g 400 (zup rs1 i ((val i) - rf))), (ua, aL x.g 400 (zup U1 i u))]) jb dX12_bitsOf_198 4 rfl (by omega) (by decide) rfl ?_
                  refine j_iload_n jb dX12_bitsOf_199 3 rfl ?_
                  refine j_if_eq (tgt := 221) jb dX12_bitsOf_200 (by decide) (by omega) (fun c_200 => ?_) (fun c_200 => ?_)
                  · skip
                    refine j_iconst jb dX12_bitsOf_221 ?_
                    refine j_istore_n (lv' := [(3, .int (iI 0)), (0, .ref n0), (1, .int (iI kind)), (2, .int (iI o)), (4, .int (iI i))]) jb dX12_bitsOf_222 rfl (by decide) rfl ?_
                    refine j_iinc (lv' := [(4, .int (iI (i + 1))), (3, .int (iI 0)), (0, .ref n0), (1, .int (iI kind)), (2, .int (iI o))]) jb dX12_bitsOf_223 4 rfl (by decide) rfl ?_
                    refine j_goto (tgt := 121) jb dX12_bitsOf_226 (by decide) ?_
                    refine j_norm (lv' := [(0, .ref n0), (1, .int (iI kind)), (2, .int (iI o)), (3, .int (iI 0)), (4, .int (iI (i + 1)))]) (st' := []) (ws' := [(n0, oX12 th dp my sm st sz mo ms yb hpk pkr rt rk rx hsh si gt va vn wd wa re ua pkk pxx bp mk bi pl cd rn rch rtn rdp rki rea rby rsh), (va, aI x.g 400 val), (yb, aI x.g 4 oc), (re, aL x.g 400 (zup rs1 i ((val i) - rf))), (ua, aL x.g 400 (zup U1 i u))]) [2, 3, 4, 1, 0] [0, 1, 2, 3, 4] rfl rfl (by decide) rfl ?_
                    exact ih121 0 (i + 1) (zup rs1 i ((val i) - rf)) (zup U1 i u) (by have hA : ∀ q, o ≤ q → q < i + 1 → zup U1 i u q = (kU val mo ms oc kind) q ∧ zup rs1 i (val i - rf) q = val q - kF val mo ms oc kind q := (fun q a b => by (by_cases e : q = i); { rw [e, zup_s, zup_s, hku, ← h148]; exact ⟨rfl, rfl⟩ }; { rw [zup_n e, zup_n e]; exact hi3 q a (by omega) }); first | exact ⟨by omega, by omega, hA, Or.inl ⟨rfl, fun q a b => by (by_cases e : q = i); { rw [e, hku]; omega }; { exact Or.elim hi4 (fun z => z.2 q a (by omega)) (fun z => absurd z.1 c_200) }⟩, by decide⟩ | exact ⟨by omega, by omega, hA, Or.inr ⟨rfl, i, hi1, by omega, by rw [hku]; omega⟩, by decide⟩ | exact ⟨by omega, by omega, hA, Or.inr ⟨rfl, Or.elim hi4 (fun z => absurd z.1 (by omega)) (fun z => z.2.elim (fun q y => ⟨q, y.1, by omega, y.2.2⟩))⟩, by decide⟩) (by omega)
                  · skip
                    refine j_aload_n jb dX12_bitsOf_203 0 rfl ?_
                    refine j_get jb f_X12_54 dX12_bitsOf_204 0 rfl rfl ?_
                    refine j_iload jb dX12_bitsOf_207 4 rfl ?_
                    refine j_lald jb dX12_bitsOf_209 4 rfl (by omega) (by decide) ?_
                    refine j_topl u (by rw [zup_s]) ?_
                    refine j_ldc2 (z := 16777216) jb q_X12_150 rfl dX12_bitsOf_210 ?_
                    refine j_lcmp_ge (tgt := 221) jb dX12_bitsOf_213 dX12_bitsOf_214 (by decide) (by omega) (by omega) (fun c_213 => ?_) (fun c_213 => ?_)
                    · skip
                      refine j_iconst jb dX12_bitsOf_221 ?_
                      refine j_istore_n (lv' := [(3, .int (iI 0)), (0, .ref n0), (1, .int (iI kind)), (2, .int (iI o)), (4, .int (iI i))]) jb dX12_bitsOf_222 rfl (by decide) rfl ?_
                      refine j_iinc (lv' := [(4, .int (iI (i + 1))), (3, .int (iI 0)), (0, .ref n0), (1, .int (iI kind)), (2, .int (iI o))]) jb dX12_bitsOf_223 4 rfl (by decide) rfl ?_
                      refine j_goto (tgt := 121) jb dX12_bitsOf_226 (by decide) ?_
                      refine j_norm (lv' := [(0, .ref n0), (1, .int (iI kind)), (2, .int (iI o)), (3, .int (iI 0)), (4, .int (iI (i + 1)))]) (st' := []) (ws' := [(n0, oX12 th dp my sm st sz mo ms yb hpk pkr rt rk rx hsh si gt va vn wd wa re ua pkk pxx bp mk bi pl cd rn rch rtn rdp rki rea rby rsh), (va, aI x.g 400 val), (yb, aI x.g 4 oc), (re, aL x.g 400 (zup rs1 i ((val i) - rf))), (ua, aL x.g 400 (zup U1 i u))]) [2, 3, 4, 1, 0] [0, 1, 2, 3, 4] rfl rfl (by decide) rfl ?_
                      exact ih121 0 (i + 1) (zup rs1 i ((val i) - rf)) (zup U1 i u) (by have hA : ∀ q, o ≤ q → q < i + 1 → zup U1 i u q = (kU val mo ms oc kind) q ∧ zup rs1 i (val i - rf) q = val q - kF val mo ms oc kind q := (fun q a b => by (by_cases e : q = i); { rw [e, zup_s, zup_s, hku, ← h148]; exact ⟨rfl, rfl⟩ }; { rw [zup_n e, zup_n e]; exact hi3 q a (by omega) }); first | exact ⟨by omega, by omega, hA, Or.inl ⟨rfl, fun q a b => by (by_cases e : q = i); { rw [e, hku]; omega }; { exact Or.elim hi4 (fun z => z.2 q a (by omega)) (fun z => absurd z.1 c_200) }⟩, by decide⟩ | exact ⟨by omega, by omega, hA, Or.inr ⟨rfl, i, hi1, by omega, by rw [hku]; omega⟩, by decide⟩ | exact ⟨by omega, by omega, hA, Or.inr ⟨rfl, Or.elim hi4 (fun z => absurd z.1 (by omega)) (fun z => z.2.elim (fun q y => ⟨q, y.1, by omega, y.2.2⟩))⟩, by decide⟩) (by omega)
                    · skip
                      refine j_iconst jb dX12_bitsOf_217 ?_
                      refine j_goto (tgt := 222) jb dX12_bitsOf_218 (by decide) ?_
                      refine j_istore_n (lv' := [(3, .int (iI 1)), (0, .ref n0), (1, .int (iI kind)), (2, .int (iI o)), (4, .int (iI i))]) jb dX12_bitsOf_222 rfl (by decide) rfl ?_
                      refine j_iinc (lv' := [(4, .int (iI (i + 1))), (3, .int (iI 1)), (0, .ref n0), (1, .int (iI kind)), (2, .int (iI o))]) jb dX12_bitsOf_223 4 rfl (by decide) rfl ?_
                      refine j_goto (tgt := 121) jb dX12_bitsOf_226 (by decide) ?_
                      refine j_norm (lv' := [(0, .ref n0), (1, .int (iI kind)), (2, .int (iI o)), (3, .int (iI 1)), (4, .int (iI (i + 1)))]) (st' := []) (ws' := [(n0, oX12 th dp my sm st sz mo ms yb hpk pkr rt rk rx hsh si gt va vn wd wa re ua pkk pxx bp mk bi pl cd rn rch rtn rdp rki rea rby rsh), (va, aI x.g 400 val), (yb, aI x.g 4 oc), (re, aL x.g 400 (zup rs1 i ((val i) - rf))), (ua, aL x.g 400 (zup U1 i u))]) [2, 3, 4, 1, 0] [0, 1, 2, 3, 4] rfl rfl (by decide) rfl ?_
                      exact ih121 1 (i + 1) (zup rs1 i ((val i) - rf)) (zup U1 i u) (by have hA : ∀ q, o ≤ q → q < i + 1 → zup U1 i u q = (kU val mo ms oc kind) q ∧ zup rs1 i (val i - rf) q = val q - kF val mo ms oc kind q := (fun q a b => by (by_cases e : q = i); { rw [e, zup_s, zup_s, hku, ← h148]; exact ⟨rfl, rfl⟩ }; { rw [zup_n e, zup_n e]; exact hi3 q a (by omega) }); first | exact ⟨by omega, by omega, hA, Or.inl ⟨rfl, fun q a b => by (by_cases e : q = i); { rw [e, hku]; omega }; { exact Or.elim hi4 (fun z => z.2 q a (by omega)) (fun z => absurd z.1 c_200) }⟩, by decide⟩ | exact ⟨by omega, by omega, hA, Or.inr ⟨rfl, i, hi1, by omega, by rw [hku]; omega⟩, by decide⟩ | exact ⟨by omega, by omega, hA, Or.inr ⟨rfl, Or.elim hi4 (fun z => absurd z.1 (by omega)) (fun z => z.2.elim (fun q y => ⟨q, y.1, by omega, y.2.2⟩))⟩, by decide⟩) (by omega)
                refine j_lcmp_ge (tgt := 187) jb dX12_bitsOf_167 dX12_bitsOf_168 (by decide) (by omega) (by omega) (fun c_167 => ?_) (fun c_167 => ?_)
                · skip
                  refine j_ldc2 (z := 2) jb q_X12_101 rfl dX12_bitsOf_187 ?_
                  refine j_aload_n jb dX12_bitsOf_190 0 rfl ?_
                  refine j_get jb f_X12_50 dX12_bitsOf_191 0 rfl rfl ?_
                  refine j_iload jb dX12_bitsOf_194 4 rfl ?_
                  refine j_lald jb dX12_bitsOf_196 3 rfl (by omega) (by decide) ?_
                  refine j_topl (val i - rf) (by rw [zup_s]) ?_
                  refine j_lmul jb dX12_bitsOf_197 ?_
                  refine j_norm (lv' := [(0, .ref n0), (1, .int (iI kind)), (2, .int (iI o)), (3, .int (iI mf)), (4, .int (iI i))]) (st' := [.long (lI (2 * (val i - rf))), .int (iI i), .ref ua]) (ws' := [(n0, oX12 th dp my sm st sz mo ms yb hpk pkr rt rk rx hsh si gt va vn wd wa re ua pkk pxx bp mk bi pl cd rn rch rtn rdp rki rea rby rsh), (va, aI x.g 400 val), (yb, aI x.g 4 oc), (re, aL x.g 400 (zup rs1 i ((val i) - rf))), (ua, aL x.g 400 U1)]) [0, 1, 2, 3, 4] [0, 1, 2, 3, 4] rfl rfl (by decide) rfl ?_
                  exact J198 (2 * (val i - rf)) (by unfold fld; first | (rw [if_pos (by omega)]; done) | (rw [if_neg (by omega)]; done))
                · skip
                  refine j_ldc2 (z := -2) jb q_X12_148 rfl dX12_bitsOf_171 ?_
                  refine j_aload_n jb dX12_bitsOf_174 0 rfl ?_
                  refine j_get jb f_X12_50 dX12_bitsOf_175 0 rfl rfl ?_
                  refine j_iload jb dX12_bitsOf_178 4 rfl ?_
                  refine j_lald jb dX12_bitsOf_180 3 rfl (by omega) (by decide) ?_
                  refine j_topl (val i - rf) (by rw [zup_s]) ?_
                  refine j_lmul jb dX12_bitsOf_181 ?_
                  refine j_lconst (z := 1) jb dX12_bitsOf_182 rfl ?_
                  refine j_lsub jb dX12_bitsOf_183 ?_
                  refine j_goto (tgt := 198) jb dX12_bitsOf_184 (by decide) ?_
                  refine j_norm (lv' := [(0, .ref n0), (1, .int (iI kind)), (2, .int (iI o)), (3, .int (iI mf)), (4, .int (iI i))]) (st' := [.long (lI (((-2) * (val i - rf)) - 1)), .int (iI i), .ref ua]) (ws' := [(n0, oX12 th dp my sm st sz mo ms yb hpk pkr rt rk rx hsh si gt va vn wd wa re ua pkk pxx bp mk bi pl cd rn rch rtn rdp rki rea rby rsh), (va, aI x.g 400 val), (yb, aI x.g 4 oc), (re, aL x.g 400 (zup rs1 i ((val i) - rf))), (ua, aL x.g 400 U1)]) [0, 1, 2, 3, 4] [0, 1, 2, 3, 4] rfl rfl (by decide) rfl ?_
                  exact J198 (((-2) * (val i - rf)) - 1) (by unfold fld; first | (rw [if_pos (by omega)]; done) | (rw [if_neg (by omega)]; done))
          refine j_norm (lv' := [(0, .ref n0), (1, .int (iI kind)), (2, .int (iI o)), (3, .int (iI 1)), (4, .int (iI o))]) (st' := []) (ws' := [(n0, oX12 th dp my sm st sz mo ms yb hpk pkr rt rk rx hsh si gt va vn wd wa re ua pkk pxx bp mk bi pl cd rn rch rtn rdp rki rea rby rsh), (va, aI x.g 400 val), (yb, aI x.g 4 oc), (re, aL x.g 400 rs), (ua, aL x.g 400 U)]) [3, 4, 2, 1, 0] [0, 1, 2, 3, 4] rfl rfl (by decide) rfl ?_
          exact L121 _ 1 o rs U ⟨Int.le_refl _, by omega, fun q a b => by omega, Or.inl ⟨rfl, fun q a b => by omega⟩, by decide⟩ (Nat.lt_succ_self _)
        · skip
          refine j_iload_n jb dX12_bitsOf_108 0 rfl ?_
          refine j_if_ne (tgt := 116) jb dX12_bitsOf_109 (by decide) (by omega) (fun c_109 => ?_) (fun c_109 => ?_)
          · skip
            have h7 : ¬ (kind = 7 ∧ mo = 0) := by omega
            refine j_iconst jb dX12_bitsOf_116 ?_
            refine j_istore_n (lv' := [(3, .int (iI 1)), (2, .int (iI o)), (0, .ref n0), (1, .int (iI kind))]) jb dX12_bitsOf_117 rfl (by decide) rfl ?_
            refine j_iload_n jb dX12_bitsOf_118 1 rfl ?_
            refine j_istore (lv' := [(4, .int (iI o)), (3, .int (iI 1)), (2, .int (iI o)), (0, .ref n0), (1, .int (iI kind))]) jb dX12_bitsOf_119 (by decide) rfl ?_
            have L121 : ∀ (fu : Nat) (mf i : Int) (rs1 U1 : Int → Int), (o ≤ i ∧ i ≤ vn ∧ (∀ q, o ≤ q → q < i → U1 q = (kU val mo ms oc kind) q ∧ rs1 q = val q - kF val mo ms oc kind q) ∧ mayI (kU val mo ms oc kind) o i mf ∧ (0 ≤ mf ∧ mf ≤ 1)) → (vn - i).toNat < fu → JW x 0 0 121 [(0, .ref n0), (1, .int (iI kind)), (2, .int (iI o)), (3, .int (iI mf)), (4, .int (iI i))] [] [(n0, oX12 th dp my sm st sz mo ms yb hpk pkr rt rk rx hsh si gt va vn wd wa re ua pkk pxx bp mk bi pl cd rn rch rtn rdp rki rea rby rsh), (va, aI x.g 400 val), (yb, aI x.g 4 oc), (re, aL x.g 400 rs1), (ua, aL x.g 400 U1)] := by
              intro fu
              induction fu with
              | zero => intro mf i rs1 U1 _ hm; exact absurd hm (by omega)
              | succ fu ih =>
                intro mf i rs1 U1 ⟨hi1, hi2, hi3, hi4, hmf⟩ hm121
                have ih121 := ih
                clear ih
                refine j_iload jb dX12_bitsOf_121 4 rfl ?_
                refine j_aload_n jb dX12_bitsOf_123 0 rfl ?_
                refine j_get jb f_X12_92 dX12_bitsOf_124 0 rfl rfl ?_
                refine j_icmp_ge (tgt := 229) jb dX12_bitsOf_127 (by decide) (by omega) (by omega) (fun c_127 => ?_) (fun c_127 => ?_)
                · skip
                  refine j_iload_n jb dX12_bitsOf_229 3 rfl ?_
                  refine j_if_eq (tgt := 273) jb dX12_bitsOf_230 (by decide) (by omega) (fun c_230 => ?_) (fun c_230 => ?_)
                  · skip
                    refine j_ldc2 (z := 1000000000) jb q_X12_115 rfl dX12_bitsOf_273 ?_
                    refine j_norm (lv' := []) (st' := [.long (lI 1000000000)]) (ws' := [(n0, oX12 th dp my sm st sz mo ms yb hpk pkr rt rk rx hsh si gt va vn wd wa re ua pkk pxx bp mk bi pl cd rn rch rtn rdp rki rea rby rsh), (va, aI x.g 400 val), (yb, aI x.g 4 oc), (re, aL x.g 400 rs1), (ua, aL x.g 400 U1)]) [] [0, 1, 2, 3, 4] rfl rfl (by decide) rfl ?_
                    exact j_lret jb jr dX12_bitsOf_276 ⟨_, _, _, _, _, _, rfl, rfl, (by first | exact ⟨Or.inl ⟨price_no (by omega) (Or.inl (fun q => Or.elim hi4 (fun z => absurd z.1 (by omega)) (fun z => z.2.elim (fun t y => y.2.2 (q.2 t (by omega) (by omega)))))), rfl⟩, fun _ q => absurd (price_no (by omega) (Or.inl (fun q => Or.elim hi4 (fun z => absurd z.1 (by omega)) (fun z => z.2.elim (fun t y => y.2.2 (q.2 t (by omega) (by omega))))))) q⟩ | exact ⟨Or.inr ⟨by rw [hpy, ← hex.1]; omega, by rw [hpy, h266.1, ← hex.1]; omega⟩, fun _ _ => ⟨by unfold rowPp; rw [← ho]; exact h266.2, hup⟩⟩)⟩
                  · skip
                    have hall : allU (kU val mo ms oc kind) (kO mo kind) vn := fun q a b => Or.elim hi4 (fun z => z.2 q (by omega) (by omega)) (fun z => absurd z.1 c_230)
                    have hki := kU_in hall
                    have heq : eqOn (kU val mo ms oc kind) U1 o vn := fun q a b => (hi3 q a (by omega)).1.symm
                    have how0 : 0 ≤ o * wd := Int.mul_nonneg (by omega) (by omega)
                    have how := mul_in (A := 4) (C := 17) (a := o) (b := wd) (by omega) (by omega) (by decide)
                    have hup : upOk val mo ms oc kind vn rs1 U1 := fun q a b => hi3 q (by omega) (by omega)
                    refine j_ldc2 (z := 7) jb q_X12_139 rfl dX12_bitsOf_233 ?_
                    refine j_iload_n jb dX12_bitsOf_236 1 rfl ?_
                    refine j_bipush jb dX12_bitsOf_237 (by decide) ?_
                    have J253 : ∀ (ex : Int), (ex = (if kind = 7 then 6 + mo * 10 else 0) ∧ (0 ≤ ex ∧ ex ≤ 46)) → JW x 0 0 253 [(0, .ref n0), (1, .int (iI kind)), (2, .int (iI o)), (3, .int (iI mf)), (4, .int (iI i))] [.int (iI ex), .long (lI 7)] [(n0, oX12 th dp my sm st sz mo ms yb hpk pkr rt rk rx hsh si gt va vn wd wa re ua pkk pxx bp mk bi pl cd rn rch rtn rdp rki rea rby rsh), (va, aI x.g 400 val), (yb, aI x.g 4 oc), (re, aL x.g 400 rs1), (ua, aL x.g 400 U1)] := by
                      intro ex hex
                      refine j_i2l jb dX12_bitsOf_253 (by omega) ?_
                      refine j_ladd jb dX12_bitsOf_254 ?_
                      refine j_iload_n jb dX12_bitsOf_255 2 rfl ?_
                      refine j_i2l jb dX12_bitsOf_256 (by omega) ?_
                      refine j_aload_n jb dX12_bitsOf_257 0 rfl ?_
                      refine j_get jb f_X12_98 dX12_bitsOf_258 0 rfl rfl ?_
                      refine j_i2l jb dX12_bitsOf_261 (by omega) ?_
                      refine j_lmul jb dX12_bitsOf_262 ?_
                      refine j_ladd jb dX12_bitsOf_263 ?_
                      refine j_aload_n jb dX12_bitsOf_264 0 rfl ?_
                      refine j_iload_n jb dX12_bitsOf_265 2 rfl ?_
                      refine j_callV (wr := [(va, aI x.g 400 val), (yb, aI x.g 4 oc)]) jb k_X12_restBits i_X12_restBits s_X12_restBits l_X12_152 (C_X12_restBits x.l x.g n0 my sm st yb pkr rt rk rx si gt va re ua mk rki rea rby th dp sz mo ms hpk hsh vn wd wa pkk pxx bp bi pl cd rn rch rtn rdp rsh o rs1 U1 (by omega) (by omega) (fun q a b => by rw [(hi3 q a (by omega)).1]; exact hki q (by omega) b) (fun q a b => by rw [(hi3 q a (by omega)).1, (hi3 q a (by omega)).2, kU_kF])) 0 14 rfl rfl rfl [0, 3, 4] [1, 2] (by decide) rfl rfl (by decide) (by decide) rfl rfl (Nat.le_of_ble_eq_true rfl) (by decide) dX12_bitsOf_266 (fun v w hp => ?_)
                      obtain ⟨rb, bp3, pk3, px3, rfl, rfl, h266⟩ := hp
                      refine j_norm (lv' := [(0, .ref n0), (1, .int (iI kind)), (2, .int (iI o)), (3, .int (iI mf)), (4, .int (iI i))]) (st' := [.long (lI rb), .long (lI ((7 + ex) + (o * wd)))]) (ws' := [(n0, oX12 th dp my sm st sz mo ms yb hpk pkr rt rk rx hsh si gt va vn wd wa re ua pk3 px3 bp3 mk bi pl cd rn rch rtn rdp rki rea rby rsh), (va, aI x.g 400 val), (yb, aI x.g 4 oc), (re, aL x.g 400 rs1), (ua, aL x.g 400 U1)]) [0, 1, 2, 3, 4] [2, 0, 1, 3, 4] rfl rfl (by decide) rfl ?_
                      rw [← rowM_congr hn.1 (show 0 ≤ o ∧ o ≤ vn by omega) heq] at h266
                      have hpy := price_yes (b := wd) (by omega) h7 ⟨(by omega : (kO mo kind) ≤ vn), hall⟩
                      have hpm := (pm_in hn (show 0 ≤ o ∧ o ≤ vn by omega) (fun q a b => by rw [ho] at a; exact hki q a b)).1
                      rw [← ho] at hpy
                      refine j_ladd jb dX12_bitsOf_269 ?_
                      refine j_goto (tgt := 276) jb dX12_bitsOf_270 (by decide) ?_
                      refine j_norm (lv' := []) (st' := [.long (lI (((7 + ex) + (o * wd)) + rb))]) (ws' := [(n0, oX12 th dp my sm st sz mo ms yb hpk pkr rt rk rx hsh si gt va vn wd wa re ua pk3 px3 bp3 mk bi pl cd rn rch rtn rdp rki rea rby rsh), (va, aI x.g 400 val), (yb, aI x.g 4 oc), (re, aL x.g 400 rs1), (ua, aL x.g 400 U1)]) [] [0, 1, 2, 3, 4] rfl rfl (by decide) rfl ?_
                      exact j_lret jb jr dX12_bitsOf_276 ⟨_, _, _, _, _, _, rfl, rfl, (by first | exact ⟨Or.inl ⟨price_no (by omega) (Or.inl (fun q => Or.elim hi4 (fun z => absurd z.1 (by omega)) (fun z => z.2.elim (fun t y => y.2.2 (q.2 t (by omega) (by omega)))))), rfl⟩, fun _ q => absurd (price_no (by omega) (Or.inl (fun q => Or.elim hi4 (fun z => absurd z.1 (by omega)) (fun z => z.2.elim (fun t y => y.2.2 (q.2 t (by omega) (by omega))))))) q⟩ | exact ⟨Or.inr ⟨by rw [hpy, ← hex.1]; omega, by rw [hpy, h266.1, ← hex.1]; omega⟩, fun _ _ => ⟨by unfold rowPp; rw [← ho]; exact h266.2, hup⟩⟩)⟩
                    refine j_icmp_ne (tgt := 252) jb dX12_bitsOf_239 (by decide) (by omega) (by omega) (fun c_239 => ?_) (fun c_239 => ?_)
                    · skip
                      refine j_iconst jb dX12_bitsOf_252 ?_
                      refine j_norm (lv' := [(0, .ref n0), (1, .int (iI kind)), (2, .int (iI o)), (3, .int (iI mf)), (4, .int (iI i))]) (st' := [.int (iI 0), .long (lI 7)]) (ws' := [(n0, oX12 th dp my sm st sz mo ms yb hpk pkr rt rk rx hsh si gt va vn wd wa re ua pkk pxx bp mk bi pl cd rn rch rtn rdp rki rea rby rsh), (va, aI x.g 400 val), (yb, aI x.g 4 oc), (re, aL x.g 400 rs1), (ua, aL x.g 400 U1)]) [0, 1, 2, 3, 4] [0, 1, 2, 3, 4] rfl rfl (by decide) rfl ?_
                      exact J253 0 (by first | (rw [if_pos c_239]; omega) | (rw [if_neg c_239]; omega))
                    · skip
                      refine j_bipush jb dX12_bitsOf_242 (by decide) ?_
                      refine j_bipush jb dX12_bitsOf_244 (by decide) ?_
                      refine j_iload_n jb dX12_bitsOf_246 2 rfl ?_
                      refine j_imul jb dX12_bitsOf_247 ?_
                      refine j_iadd jb dX12_bitsOf_248 ?_
                      refine j_goto (tgt := 253) jb dX12_bitsOf_249 (by decide) ?_
                      refine j_norm (lv' := [(0, .ref n0), (1, .int (iI kind)), (2, .int (iI o)), (3, .int (iI mf)), (4, .int (iI i))]) (st' := [.int (iI (6 + (10 * o))), .long (lI 7)]) (ws' := [(n0, oX12 th dp my sm st sz mo ms yb hpk pkr rt rk rx hsh si gt va vn wd wa re ua pkk pxx bp mk bi pl cd rn rch rtn rdp rki rea rby rsh), (va, aI x.g 400 val), (yb, aI x.g 4 oc), (re, aL x.g 400 rs1), (ua, aL x.g 400 U1)]) [0, 1, 2, 3, 4] [0, 1, 2, 3, 4] rfl rfl (by decide) rfl ?_
                      exact J253 (6 + (10 * o)) (by first | (rw [if_pos c_239]; omega) | (rw [if_neg c_239]; omega))
                · skip
                  have hvi := hv9 i (by omega) (by omega)
                  refine j_aload_n jb dX12_bitsOf_130 0 rfl ?_
                  refine j_get jb f_X12_50 dX12_bitsOf_131 0 rfl rfl ?_
                  refine j_iload jb dX12_bitsOf_134 4 rfl ?_
                  refine j_aload_n jb dX12_bitsOf_136 0 rfl ?_
                  refine j_get jb f_X12_47 dX12_bitsOf_137 0 rfl rfl ?_
                  refine j_iload jb dX12_bitsOf_140 4 rfl ?_
                  refine j_iald jb dX12_bitsOf_142 1 rfl (by omega) (by decide) ?_
                  refine j_i2l jb dX12_bitsOf_143 (by have := hv9 i (by omega) (by omega); omega) ?_
                  refine j_aload_n jb dX12_bitsOf_144 0 rfl ?_
                  refine j_iload_n jb dX12_bitsOf_145 1 rfl ?_
                  refine j_iload jb dX12_bitsOf_146 4 rfl ?_
                  refine j_callV (wr := [(re, aL x.g 400 rs1), (ua, aL x.g 400 U1)]) jb k_X12_foretold i_X12_foretold s_X12_foretold l_X12_145 (C_X12_foretold x.l x.g n0 my sm st yb pkr rt rk rx si gt va re ua mk rki rea rby th dp sz mo ms hpk hsh vn wd wa pkk pxx bp bi pl cd rn rch rtn rdp rsh kind i val oc (by omega) (by omega) (by omega) (fun j a b => hv9 j a (by omega)) (by omega) (by omega) hcf) 0 14 rfl rfl rfl [0, 1, 2] [3, 4] (by decide) rfl rfl (by decide) (by decide) rfl rfl (Nat.le_of_ble_eq_true rfl) (by decide) dX12_bitsOf_148 (fun v w hp => ?_)
                  obtain ⟨rf, rfl, rfl, h148⟩ := hp
                  refine j_norm (lv' := [(0, .ref n0), (1, .int (iI kind)), (2, .int (iI o)), (3, .int (iI mf)), (4, .int (iI i))]) (st' := [.long (lI rf), .long (lI (val i)), .int (iI i), .ref re]) (ws' := [(n0, oX12 th dp my sm st sz mo ms yb hpk pkr rt rk rx hsh si gt va vn wd wa re ua pkk pxx bp mk bi pl cd rn rch rtn rdp rki rea rby rsh), (va, aI x.g 400 val), (yb, aI x.g 4 oc), (re, aL x.g 400 rs1), (ua, aL x.g 400 U1)]) [0, 1, 2, 3, 4] [2, 3, 4, 0, 1] rfl rfl (by decide) rfl ?_
                  have hkf := kF_in (v := val) (os := ms) (kind := kind) (i := i) (by omega) hoo (by omega) hcf (fun j a b => hv9 j a (by omega))
                  rw [← h148] at hkf
                  refine j_lsub jb dX12_bitsOf_151 ?_
                  refine j_last (ws' := [(n0, oX12 th dp my sm st sz mo ms yb hpk pkr rt rk rx hsh si gt va vn wd wa re ua pkk pxx bp mk bi pl cd rn rch rtn rdp rki rea rby rsh), (va, aI x.g 400 val), (yb, aI x.g 4 oc), (re, aL x.g 400 (zup rs1 i ((val i) - rf))), (ua, aL x.g 400 U1)]) jb dX12_bitsOf_152 3 rfl (by omega) (by decide) rfl ?_
                  refine j_aload_n jb dX12_bitsOf_153 0 rfl ?_
                  refine j_get jb f_X12_54 dX12_bitsOf_154 0 rfl rfl ?_
                  refine j_iload jb dX12_bitsOf_157 4 rfl ?_
                  refine j_aload_n jb dX12_bitsOf_159 0 rfl ?_
                  refine j_get jb f_X12_50 dX12_bitsOf_160 0 rfl rfl ?_
                  refine j_iload jb dX12_bitsOf_163 4 rfl ?_
                  refine j_lald jb dX12_bitsOf_165 3 rfl (by omega) (by decide) ?_
                  refine j_topl (val i - rf) (by rw [zup_s]) ?_
                  refine j_lconst (z := 0) jb dX12_bitsOf_166 rfl ?_
                  have J198 : ∀ (u : Int), u = fld (val i - rf) → JW x 0 0 198 [(0, .ref n0), (1, .int (iI kind)), (2, .int (iI o)), (3, .int (iI mf)), (4, .int (iI i))] [.long (lI u), .int (iI i), .ref ua] [(n0, oX12 th dp my sm st sz mo ms yb hpk pkr rt rk rx hsh si gt va vn wd wa re ua pkk pxx bp mk bi pl cd rn rch rtn rdp rki rea rby rsh), (va, aI x.g 400 val), (yb, aI x.g 4 oc), (re, aL x.g 400 (zup rs1 i ((val i) - rf))), (ua, aL x.g 400 U1)] := by
                    intro u hu
                    have hui := fld_in (e := val i - rf) (by omega)
                    rw [← hu] at hui
                    have hku : (kU val mo ms oc kind) i = u := by (rw [kU_kF, ← h148, hu])
                    refine j_last (ws' := [(n0, oX12 th dp my sm st sz mo ms yb hpk pkr rt rk rx hsh si gt va vn wd wa re ua pkk pxx bp mk bi pl cd rn rch rtn rdp rki rea rby rsh), (va, aI x.g 400 val), (yb, aI x.g 4 oc), (re, aL x.g 400 (zup rs1 i ((val i) - rf))), (ua, aL x.g 400 (zup U1 i u))]) jb dX12_bitsOf_198 4 rfl (by omega) (by decide) rfl ?_
                    refine j_iload_n jb dX12_bitsOf_199 3 rfl ?_
                    refine j_if_eq (tgt := 221) jb dX12_bitsOf_200 (by decide) (by omega) (fun c_200 => ?_) (fun c_200 => ?_)
                    · skip
                      refine j_iconst jb dX12_bitsOf_221 ?_
                      refine j_istore_n (lv' := [(3, .int (iI 0)), (0, .ref n0), (1, .int (iI kind)), (2, .int (iI o)), (4, .int (iI i))]) jb dX12_bitsOf_222 rfl (by decide) rfl ?_
                      refine j_iinc (lv' := [(4, .int (iI (i + 1))), (3, .int (iI 0)), (0, .ref n0), (1, .int (iI kind)), (2, .int (iI o))]) jb dX12_bitsOf_223 4 rfl (by decide) rfl ?_
                      refine j_goto (tgt := 121) jb dX12_bitsOf_226 (by decide) ?_
                      refine j_norm (lv' := [(0, .ref n0), (1, .int (iI kind)), (2, .int (iI o)), (3, .int (iI 0)), (4, .int (iI (i + 1)))]) (st' := []) (ws' := [(n0, oX12 th dp my sm st sz mo ms yb hpk pkr rt rk rx hsh si gt va vn wd wa re ua pkk pxx bp mk bi pl cd rn rch rtn rdp rki rea rby rsh), (va, aI x.g 400 val), (yb, aI x.g 4 oc), (re, aL x.g 400 (zup rs1 i ((val i) - rf))), (ua, aL x.g 400 (zup U1 i u))]) [2, 3, 4, 1, 0] [0, 1, 2, 3, 4] rfl rfl (by decide) rfl ?_
                      exact ih121 0 (i + 1) (zup rs1 i ((val i) - rf)) (zup U1 i u) (by have hA : ∀ q, o ≤ q → q < i + 1 → zup U1 i u q = (kU val mo ms oc kind) q ∧ zup rs1 i (val i - rf) q = val q - kF val mo ms oc kind q := (fun q a b => by (by_cases e : q = i); { rw [e, zup_s, zup_s, hku, ← h148]; exact ⟨rfl, rfl⟩ }; { rw [zup_n e, zup_n e]; exact hi3 q a (by omega) }); first | exact ⟨by omega, by omega, hA, Or.inl ⟨rfl, fun q a b => by (by_cases e : q = i); { rw [e, hku]; omega }; { exact Or.elim hi4 (fun z => z.2 q a (by omega)) (fun z => absurd z.1 c_200) }⟩, by decide⟩ | exact ⟨by omega, by omega, hA, Or.inr ⟨rfl, i, hi1, by omega, by rw [hku]; omega⟩, by decide⟩ | exact ⟨by omega, by omega, hA, Or.inr ⟨rfl, Or.elim hi4 (fun z => absurd z.1 (by omega)) (fun z => z.2.elim (fun q y => ⟨q, y.1, by omega, y.2.2⟩))⟩, by decide⟩) (by omega)
                    · skip
                      refine j_aload_n jb dX12_bitsOf_203 0 rfl ?_
                      refine j_get jb f_X12_54 dX12_bitsOf_204 0 rfl rfl ?_
                      refine j_iload jb dX12_bitsOf_207 4 rfl ?_
                      refine j_lald jb dX12_bitsOf_209 4 rfl (by omega) (by decide) ?_
                      refine j_topl u (by rw [zup_s]) ?_
                      refine j_ldc2 (z := 16777216) jb q_X12_150 rfl dX12_bitsOf_210 ?_
                      refine j_lcmp_ge (tgt := 221) jb dX12_bitsOf_213 dX12_bitsOf_214 (by decide) (by omega) (by omega) (fun c_213 => ?_) (fun c_213 => ?_)
                      · skip
                        refine j_iconst jb dX12_bitsOf_221 ?_
                        refine j_istore_n (lv' := [(3, .int (iI 0)), (0, .ref n0), (1, .int (iI kind)), (2, .int (iI o)), (4, .int (iI i))]) jb dX12_bitsOf_222 rfl (by decide) rfl ?_
                        refine j_iinc (lv' := [(4, .int (iI (i + 1))), (3, .int (iI 0)), (0, .ref n0), (1, .int (iI kind)), (2, .int (iI o))]) jb dX12_bitsOf_223 4 rfl (by decide) rfl ?_
                        refine j_goto (tgt := 121) jb dX12_bitsOf_226 (by decide) ?_
                        refine j_norm (lv' := [(0, .ref n0), (1, .int (iI kind)), (2, .int (iI o)), (3, .int (iI 0)), (4, .int (iI (i + 1)))]) (st' := []) (ws' := [(n0, oX12 th dp my sm st sz mo ms yb hpk pkr rt rk rx hsh si gt va vn wd wa re ua pkk pxx bp mk bi pl cd rn rch rtn rdp rki rea rby rsh), (va, aI x.g 400 val), (yb, aI x.g 4 oc), (re, aL x.g 400 (zup rs1 i ((val i) - rf))), (ua, aL x.g 400 (zup U1 i u))]) [2, 3, 4, 1, 0] [0, 1, 2, 3, 4] rfl rfl (by decide) rfl ?_
                        exact ih121 0 (i + 1) (zup rs1 i ((val i) - rf)) (zup U1 i u) (by have hA : ∀ q, o ≤ q → q < i + 1 → zup U1 i u q = (kU val mo ms oc kind) q ∧ zup rs1 i (val i - rf) q = val q - kF val mo ms oc kind q := (fun q a b => by (by_cases e : q = i); { rw [e, zup_s, zup_s, hku, ← h148]; exact ⟨rfl, rfl⟩ }; { rw [zup_n e, zup_n e]; exact hi3 q a (by omega) }); first | exact ⟨by omega, by omega, hA, Or.inl ⟨rfl, fun q a b => by (by_cases e : q = i); { rw [e, hku]; omega }; { exact Or.elim hi4 (fun z => z.2 q a (by omega)) (fun z => absurd z.1 c_200) }⟩, by decide⟩ | exact ⟨by omega, by omega, hA, Or.inr ⟨rfl, i, hi1, by omega, by rw [hku]; omega⟩, by decide⟩ | exact ⟨by omega, by omega, hA, Or.inr ⟨rfl, Or.elim hi4 (fun z => absurd z.1 (by omega)) (fun z => z.2.elim (fun q y => ⟨q, y.1, by omega, y.2.2⟩))⟩, by decide⟩) (by omega)
                      · skip
                        refine j_iconst jb dX12_bitsOf_217 ?_
                        refine j_goto (tgt := 222) jb dX12_bitsOf_218 (by decide) ?_
                        refine j_istore_n (lv' := [(3, .int (iI 1)), (0, .ref n0), (1, .int (iI kind)), (2, .int (iI o)), (4, .int (iI i))]) jb dX12_bitsOf_222 rfl (by decide) rfl ?_
                        refine j_iinc (lv' := [(4, .int (iI (i + 1))), (3, .int (iI 1)), (0, .ref n0), (1, .int (iI kind)), (2, .int (iI o))]) jb dX12_bitsOf_223 4 rfl (by decide) rfl ?_
                        refine j_goto (tgt := 121) jb dX12_bitsOf_226 (by decide) ?_
                        refine j_norm (lv' := [(0, .ref n0), (1, .int (iI kind)), (2, .int (iI o)), (3, .int (iI 1)), (4, .int (iI (i + 1)))]) (st' := []) (ws' := [(n0, oX12 th dp my sm st sz mo ms yb hpk pkr rt rk rx hsh si gt va vn wd wa re ua pkk pxx bp mk bi pl cd rn rch rtn rdp rki rea rby rsh), (va, aI x.g 400 val), (yb, aI x.g 4 oc), (re, aL x.g 400 (zup rs1 i ((val i) - rf))), (ua, aL x.g 400 (zup U1 i u))]) [2, 3, 4, 1, 0] [0, 1, 2, 3, 4] rfl rfl (by decide) rfl ?_
                        exact ih121 1 (i + 1) (zup rs1 i ((val i) - rf)) (zup U1 i u) (by have hA : ∀ q, o ≤ q → q < i + 1 → zup U1 i u q = (kU val mo ms oc kind) q ∧ zup rs1 i (val i - rf) q = val q - kF val mo ms oc kind q := (fun q a b => by (by_cases e : q = i); { rw [e, zup_s, zup_s, hku, ← h148]; exact ⟨rfl, rfl⟩ }; { rw [zup_n e, zup_n e]; exact hi3 q a (by omega) }); first | exact ⟨by omega, by omega, hA, Or.inl ⟨rfl, fun q a b => by (by_cases e : q = i); { rw [e, hku]; omega }; { exact Or.elim hi4 (fun z => z.2 q a (by omega)) (fun z => absurd z.1 c_200) }⟩, by decide⟩ | exact ⟨by omega, by omega, hA, Or.inr ⟨rfl, i, hi1, by omega, by rw [hku]; omega⟩, by decide⟩ | exact ⟨by omega, by omega, hA, Or.inr ⟨rfl, Or.elim hi4 (fun z => absurd z.1 (by omega)) (fun z => z.2.elim (fun q y => ⟨q, y.1, by omega, y.2.2⟩))⟩, by decide⟩) (by omega)
                  refine j_lcmp_ge (tgt := 187) jb dX12_bitsOf_167 dX12_bitsOf_168 (by decide) (by omega) (by omega) (fun c_167 => ?_) (fun c_167 => ?_)
                  · skip
                    refine j_ldc2 (z := 2) jb q_X12_101 rfl dX12_bitsOf_187 ?_
                    refine j_aload_n jb dX12_bitsOf_190 0 rfl ?_
                    refine j_get jb f_X12_50 dX12_bitsOf_191 0 rfl rfl ?_
                    refine j_iload jb dX12_bitsOf_194 4 rfl ?_
                    refine j_lald jb dX12_bitsOf_196 3 rfl (by omega) (by decide) ?_
                    refine j_topl (val i - rf) (by rw [zup_s]) ?_
                    refine j_lmul jb dX12_bitsOf_197 ?_
                    refine j_norm (lv' := [(0, .ref n0), (1, .int (iI kind)), (2, .int (iI o)), (3, .int (iI mf)), (4, .int (iI i))]) (st' := [.long (lI (2 * (val i - rf))), .int (iI i), .ref ua]) (ws' := [(n0, oX12 th dp my sm st sz mo ms yb hpk pkr rt rk rx hsh si gt va vn wd wa re ua pkk pxx bp mk bi pl cd rn rch rtn rdp rki rea rby rsh), (va, aI x.g 400 val), (yb, aI x.g 4 oc), (re, aL x.g 400 (zup rs1 i ((val i) - rf))), (ua, aL x.g 400 U1)]) [0, 1, 2, 3, 4] [0, 1, 2, 3, 4] rfl rfl (by decide) rfl ?_
                    exact J198 (2 * (val i - rf)) (by unfold fld; first | (rw [if_pos (by omega)]; done) | (rw [if_neg (by omega)]; done))
                  · skip
                    refine j_ldc2 (z := -2) jb q_X12_148 rfl dX12_bitsOf_171 ?_
                    refine j_aload_n jb dX12_bitsOf_174 0 rfl ?_
                    refine j_get jb f_X12_50 dX12_bitsOf_175 0 rfl rfl ?_
                    refine j_iload jb dX12_bitsOf_178 4 rfl ?_
                    refine j_lald jb dX12_bitsOf_180 3 rfl (by omega) (by decide) ?_
                    refine j_topl (val i - rf) (by rw [zup_s]) ?_
                    refine j_lmul jb dX12_bitsOf_181 ?_
                    refine j_lconst (z := 1) jb dX12_bitsOf_182 rfl ?_
                    refine j_lsub jb dX12_bitsOf_183 ?_
                    refine j_goto (tgt := 198) jb dX12_bitsOf_184 (by decide) ?_
                    refine j_norm (lv' := [(0, .ref n0), (1, .int (iI kind)), (2, .int (iI o)), (3, .int (iI mf)), (4, .int (iI i))]) (st' := [.long (lI (((-2) * (val i - rf)) - 1)), .int (iI i), .ref ua]) (ws' := [(n0, oX12 th dp my sm st sz mo ms yb hpk pkr rt rk rx hsh si gt va vn wd wa re ua pkk pxx bp mk bi pl cd rn rch rtn rdp rki rea rby rsh), (va, aI x.g 400 val), (yb, aI x.g 4 oc), (re, aL x.g 400 (zup rs1 i ((val i) - rf))), (ua, aL x.g 400 U1)]) [0, 1, 2, 3, 4] [0, 1, 2, 3, 4] rfl rfl (by decide) rfl ?_
                    exact J198 (((-2) * (val i - rf)) - 1) (by unfold fld; first | (rw [if_pos (by omega)]; done) | (rw [if_neg (by omega)]; done))
            refine j_norm (lv' := [(0, .ref n0), (1, .int (iI kind)), (2, .int (iI o)), (3, .int (iI 1)), (4, .int (iI o))]) (st' := []) (ws' := [(n0, oX12 th dp my sm st sz mo ms yb hpk pkr rt rk rx hsh si gt va vn wd wa re ua pkk pxx bp mk bi pl cd rn rch rtn rdp rki rea rby rsh), (va, aI x.g 400 val), (yb, aI x.g 4 oc), (re, aL x.g 400 rs), (ua, aL x.g 400 U)]) [3, 4, 2, 1, 0] [0, 1, 2, 3, 4] rfl rfl (by decide) rfl ?_
            exact L121 _ 1 o rs U ⟨Int.le_refl _, by omega, fun q a b => by omega, Or.inl ⟨rfl, fun q a b => by omega⟩, by decide⟩ (Nat.lt_succ_self _)
          · skip
            refine j_ldc2 (z := 1000000000) jb q_X12_115 rfl dX12_bitsOf_112 ?_
            refine j_norm (lv' := []) (st' := [.long (lI 1000000000)]) (ws' := [(n0, oX12 th dp my sm st sz mo ms yb hpk pkr rt rk rx hsh si gt va vn wd wa re ua pkk pxx bp mk bi pl cd rn rch rtn rdp rki rea rby rsh), (va, aI x.g 400 val), (yb, aI x.g 4 oc), (re, aL x.g 400 rs), (ua, aL x.g 400 U)]) [] [0, 1, 2, 3, 4] rfl rfl (by decide) rfl ?_
            exact j_lret jb jr dX12_bitsOf_115 ⟨_, _, _, _, _, _, rfl, rfl, (by first | exact ⟨Or.inl ⟨price_no (by omega) (Or.inr (by omega)), rfl⟩, fun _ q => absurd (price_no (by omega) (Or.inr (by omega))) q⟩ | exact ⟨Or.inl ⟨price_no (by omega) (Or.inl (fun q => absurd q.1 (by omega))), rfl⟩, fun _ q => absurd (price_no (by omega) (Or.inl (fun q => absurd q.1 (by omega)))) q⟩)⟩
    · skip
      refine j_ldc2 (z := 7) jb q_X12_139 rfl dX12_bitsOf_72 ?_
      refine j_aload_n jb dX12_bitsOf_75 0 rfl ?_
      refine j_get jb f_X12_92 dX12_bitsOf_76 0 rfl rfl ?_
      refine j_i2l jb dX12_bitsOf_79 (by omega) ?_
      refine j_aload_n jb dX12_bitsOf_80 0 rfl ?_
      refine j_get jb f_X12_98 dX12_bitsOf_81 0 rfl rfl ?_
      refine j_i2l jb dX12_bitsOf_84 (by omega) ?_
      refine j_lmul jb dX12_bitsOf_85 ?_
      refine j_ladd jb dX12_bitsOf_86 ?_
      refine j_norm (lv' := []) (st' := [.long (lI (7 + (vn * wd)))]) (ws' := [(n0, oX12 th dp my sm st sz mo ms yb hpk pkr rt rk rx hsh si gt va vn wd wa re ua pkk pxx bp mk bi pl cd rn rch rtn rdp rki rea rby rsh), (va, aI x.g 400 val), (yb, aI x.g 4 oc), (re, aL x.g 400 rs), (ua, aL x.g 400 U)]) [] [0, 1, 2, 3, 4] rfl rfl (by decide) rfl ?_
      exact j_lret jb jr dX12_bitsOf_87 ⟨_, _, _, _, _, _, rfl, rfl, (by rw [show kind = 1 by omega]; exact ⟨Or.inr ⟨by rw [price_1]; omega, price_1.symm⟩, fun q => absurd q (by decide)⟩)⟩
  · skip
    refine j_iconst jb dX12_bitsOf_4 ?_
    refine j_istore_n (lv' := [(2, .int (iI 1)), (0, .ref n0), (1, .int (iI kind))]) jb dX12_bitsOf_5 rfl (by decide) rfl ?_
    refine j_iconst jb dX12_bitsOf_6 ?_
    refine j_istore_n (lv' := [(3, .int (iI 1)), (2, .int (iI 1)), (0, .ref n0), (1, .int (iI kind))]) jb dX12_bitsOf_7 rfl (by decide) rfl ?_
    have L8 : ∀ (fu : Nat) (sa i : Int), (1 ≤ i ∧ i ≤ vn ∧ ((sa = 1 ∧ alk val i.toNat = true) ∨ (sa = 0 ∧ ¬ alk val vn.toNat = true))) → (vn - i).toNat < fu → JW x 0 0 8 [(0, .ref n0), (1, .int (iI kind)), (2, .int (iI sa)), (3, .int (iI i))] [] [(n0, oX12 th dp my sm st sz mo ms yb hpk pkr rt rk rx hsh si gt va vn wd wa re ua pkk pxx bp mk bi pl cd rn rch rtn rdp rki rea rby rsh), (va, aI x.g 400 val), (yb, aI x.g 4 oc), (re, aL x.g 400 rs), (ua, aL x.g 400 U)] := by
      intro fu
      induction fu with
      | zero => intro sa i _ hm; exact absurd hm (by omega)
      | succ fu ih =>
        intro sa i ⟨hi1, hi2, hi3⟩ hm8
        have ih8 := ih
        clear ih
        refine j_iload_n jb dX12_bitsOf_8 3 rfl ?_
        refine j_aload_n jb dX12_bitsOf_9 0 rfl ?_
        refine j_get jb f_X12_92 dX12_bitsOf_10 0 rfl rfl ?_
        refine j_icmp_ge (tgt := 47) jb dX12_bitsOf_13 (by decide) (by omega) (by omega) (fun c_13 => ?_) (fun c_13 => ?_)
        · skip
          refine j_iload_n jb dX12_bitsOf_47 2 rfl ?_
          refine j_if_eq (tgt := 63) jb dX12_bitsOf_48 (by decide) (by omega) (fun c_48 => ?_) (fun c_48 => ?_)
          · skip
            refine j_ldc2 (z := 1000000000) jb q_X12_115 rfl dX12_bitsOf_63 ?_
            refine j_norm (lv' := []) (st' := [.long (lI 1000000000)]) (ws' := [(n0, oX12 th dp my sm st sz mo ms yb hpk pkr rt rk rx hsh si gt va vn wd wa re ua pkk pxx bp mk bi pl cd rn rch rtn rdp rki rea rby rsh), (va, aI x.g 400 val), (yb, aI x.g 4 oc), (re, aL x.g 400 rs), (ua, aL x.g 400 U)]) [] [0, 1, 2, 3, 4] rfl rfl (by decide) rfl ?_
            exact j_lret jb jr dX12_bitsOf_66 ⟨_, _, _, _, _, _, rfl, rfl, (by have ek : kind = 0 := (by omega); rw [ek]; first | (have z := price_0t (b := wd) (oo := mo) (os := ms) (oc := oc) (v := val) (n := vn) (hi3.elim (fun q => by rw [show vn = i by omega]; exact q.2) (fun q => absurd q.1 (by omega)))); exact ⟨Or.inr ⟨by rw [z]; omega, z.symm⟩, fun q => absurd q (by decide)⟩ | (have z := price_0f (b := wd) (oo := mo) (os := ms) (oc := oc) (v := val) (n := vn) (hi3.elim (fun q => absurd q.1 (by omega)) (fun q => q.2))); exact ⟨Or.inl ⟨z, rfl⟩, fun q => absurd q (by decide)⟩)⟩
          · skip
            refine j_ldc2 (z := 7) jb q_X12_139 rfl dX12_bitsOf_51 ?_
            refine j_aload_n jb dX12_bitsOf_54 0 rfl ?_
            refine j_get jb f_X12_98 dX12_bitsOf_55 0 rfl rfl ?_
            refine j_i2l jb dX12_bitsOf_58 (by omega) ?_
            refine j_ladd jb dX12_bitsOf_59 ?_
            refine j_goto (tgt := 66) jb dX12_bitsOf_60 (by decide) ?_
            refine j_norm (lv' := []) (st' := [.long (lI (7 + wd))]) (ws' := [(n0, oX12 th dp my sm st sz mo ms yb hpk pkr rt rk rx hsh si gt va vn wd wa re ua pkk pxx bp mk bi pl cd rn rch rtn rdp rki rea rby rsh), (va, aI x.g 400 val), (yb, aI x.g 4 oc), (re, aL x.g 400 rs), (ua, aL x.g 400 U)]) [] [0, 1, 2, 3, 4] rfl rfl (by decide) rfl ?_
            exact j_lret jb jr dX12_bitsOf_66 ⟨_, _, _, _, _, _, rfl, rfl, (by have ek : kind = 0 := (by omega); rw [ek]; first | (have z := price_0t (b := wd) (oo := mo) (os := ms) (oc := oc) (v := val) (n := vn) (hi3.elim (fun q => by rw [show vn = i by omega]; exact q.2) (fun q => absurd q.1 (by omega)))); exact ⟨Or.inr ⟨by rw [z]; omega, z.symm⟩, fun q => absurd q (by decide)⟩ | (have z := price_0f (b := wd) (oo := mo) (os := ms) (oc := oc) (v := val) (n := vn) (hi3.elim (fun q => absurd q.1 (by omega)) (fun q => q.2))); exact ⟨Or.inl ⟨z, rfl⟩, fun q => absurd q (by decide)⟩)⟩
        · skip
          refine j_iload_n jb dX12_bitsOf_16 2 rfl ?_
          refine j_if_eq (tgt := 39) jb dX12_bitsOf_17 (by decide) (by omega) (fun c_17 => ?_) (fun c_17 => ?_)
          · skip
            refine j_iconst jb dX12_bitsOf_39 ?_
            refine j_istore_n (lv' := [(2, .int (iI 0)), (0, .ref n0), (1, .int (iI kind)), (3, .int (iI i))]) jb dX12_bitsOf_40 rfl (by decide) rfl ?_
            refine j_iinc (lv' := [(3, .int (iI (i + 1))), (2, .int (iI 0)), (0, .ref n0), (1, .int (iI kind))]) jb dX12_bitsOf_41 3 rfl (by decide) rfl ?_
            refine j_goto (tgt := 8) jb dX12_bitsOf_44 (by decide) ?_
            refine j_norm (lv' := [(0, .ref n0), (1, .int (iI kind)), (2, .int (iI 0)), (3, .int (iI (i + 1)))]) (st' := []) (ws' := [(n0, oX12 th dp my sm st sz mo ms yb hpk pkr rt rk rx hsh si gt va vn wd wa re ua pkk pxx bp mk bi pl cd rn rch rtn rdp rki rea rby rsh), (va, aI x.g 400 val), (yb, aI x.g 4 oc), (re, aL x.g 400 rs), (ua, aL x.g 400 U)]) [2, 3, 1, 0] [0, 1, 2, 3, 4] rfl rfl (by decide) rfl ?_
            exact ih8 0 (i + 1) (by first | exact ⟨by omega, by omega, Or.inl ⟨rfl, alk_step (by omega) (hi3.elim (fun q => q.2) (fun q => absurd q.1 c_17)) c_32⟩⟩ | exact ⟨by omega, by omega, Or.inr ⟨rfl, by rw [alk_no (by omega) c_32 vn.toNat (by omega)]; decide⟩⟩ | exact ⟨by omega, by omega, Or.inr ⟨rfl, hi3.elim (fun q => absurd q.1 (by omega)) (fun q => q.2)⟩⟩) (by omega)
          · skip
            refine j_aload_n jb dX12_bitsOf_20 0 rfl ?_
            refine j_get jb f_X12_47 dX12_bitsOf_21 0 rfl rfl ?_
            refine j_iload_n jb dX12_bitsOf_24 3 rfl ?_
            refine j_iald jb dX12_bitsOf_25 1 rfl (by omega) (by decide) ?_
            refine j_aload_n jb dX12_bitsOf_26 0 rfl ?_
            refine j_get jb f_X12_47 dX12_bitsOf_27 0 rfl rfl ?_
            refine j_iconst jb dX12_bitsOf_30 ?_
            refine j_iald jb dX12_bitsOf_31 1 rfl (by omega) (by decide) ?_
            refine j_icmp_ne (tgt := 39) jb dX12_bitsOf_32 (by decide) (by have := hv9 i (by omega) (by omega); omega) (by have := hv9 0 (by omega) (by omega); omega) (fun c_32 => ?_) (fun c_32 => ?_)
            · skip
              refine j_iconst jb dX12_bitsOf_39 ?_
              refine j_istore_n (lv' := [(2, .int (iI 0)), (0, .ref n0), (1, .int (iI kind)), (3, .int (iI i))]) jb dX12_bitsOf_40 rfl (by decide) rfl ?_
              refine j_iinc (lv' := [(3, .int (iI (i + 1))), (2, .int (iI 0)), (0, .ref n0), (1, .int (iI kind))]) jb dX12_bitsOf_41 3 rfl (by decide) rfl ?_
              refine j_goto (tgt := 8) jb dX12_bitsOf_44 (by decide) ?_
              refine j_norm (lv' := [(0, .ref n0), (1, .int (iI kind)), (2, .int (iI 0)), (3, .int (iI (i + 1)))]) (st' := []) (ws' := [(n0, oX12 th dp my sm st sz mo ms yb hpk pkr rt rk rx hsh si gt va vn wd wa re ua pkk pxx bp mk bi pl cd rn rch rtn rdp rki rea rby rsh), (va, aI x.g 400 val), (yb, aI x.g 4 oc), (re, aL x.g 400 rs), (ua, aL x.g 400 U)]) [2, 3, 1, 0] [0, 1, 2, 3, 4] rfl rfl (by decide) rfl ?_
              exact ih8 0 (i + 1) (by first | exact ⟨by omega, by omega, Or.inl ⟨rfl, alk_step (by omega) (hi3.elim (fun q => q.2) (fun q => absurd q.1 c_17)) c_32⟩⟩ | exact ⟨by omega, by omega, Or.inr ⟨rfl, by rw [alk_no (by omega) c_32 vn.toNat (by omega)]; decide⟩⟩ | exact ⟨by omega, by omega, Or.inr ⟨rfl, hi3.elim (fun q => absurd q.1 (by omega)) (fun q => q.2)⟩⟩) (by omega)
            · skip
              refine j_iconst jb dX12_bitsOf_35 ?_
              refine j_goto (tgt := 40) jb dX12_bitsOf_36 (by decide) ?_
              refine j_istore_n (lv' := [(2, .int (iI 1)), (0, .ref n0), (1, .int (iI kind)), (3, .int (iI i))]) jb dX12_bitsOf_40 rfl (by decide) rfl ?_
              refine j_iinc (lv' := [(3, .int (iI (i + 1))), (2, .int (iI 1)), (0, .ref n0), (1, .int (iI kind))]) jb dX12_bitsOf_41 3 rfl (by decide) rfl ?_
              refine j_goto (tgt := 8) jb dX12_bitsOf_44 (by decide) ?_
              refine j_norm (lv' := [(0, .ref n0), (1, .int (iI kind)), (2, .int (iI 1)), (3, .int (iI (i + 1)))]) (st' := []) (ws' := [(n0, oX12 th dp my sm st sz mo ms yb hpk pkr rt rk rx hsh si gt va vn wd wa re ua pkk pxx bp mk bi pl cd rn rch rtn rdp rki rea rby rsh), (va, aI x.g 400 val), (yb, aI x.g 4 oc), (re, aL x.g 400 rs), (ua, aL x.g 400 U)]) [2, 3, 1, 0] [0, 1, 2, 3, 4] rfl rfl (by decide) rfl ?_
              exact ih8 1 (i + 1) (by first | exact ⟨by omega, by omega, Or.inl ⟨rfl, alk_step (by omega) (hi3.elim (fun q => q.2) (fun q => absurd q.1 c_17)) c_32⟩⟩ | exact ⟨by omega, by omega, Or.inr ⟨rfl, by rw [alk_no (by omega) c_32 vn.toNat (by omega)]; decide⟩⟩ | exact ⟨by omega, by omega, Or.inr ⟨rfl, hi3.elim (fun q => absurd q.1 (by omega)) (fun q => q.2)⟩⟩) (by omega)
    refine j_norm (lv' := [(0, .ref n0), (1, .int (iI kind)), (2, .int (iI 1)), (3, .int (iI 1))]) (st' := []) (ws' := [(n0, oX12 th dp my sm st sz mo ms yb hpk pkr rt rk rx hsh si gt va vn wd wa re ua pkk pxx bp mk bi pl cd rn rch rtn rdp rki rea rby rsh), (va, aI x.g 400 val), (yb, aI x.g 4 oc), (re, aL x.g 400 rs), (ua, aL x.g 400 U)]) [2, 3, 1, 0] [0, 1, 2, 3, 4] rfl rfl (by decide) rfl ?_
    exact L8 _ 1 1 ⟨by decide, hn.1, Or.inl ⟨rfl, alk_1 _⟩⟩ (Nat.lt_succ_self _)

set_option maxHeartbeats 4000000 in
set_option maxRecDepth 100000 in
theorem C_X12_bestKind (l : Launch) (g : GG) (n0 my sm st yb pkr rt rk rx si gt va re ua mk rki rea rby : Nat) (th dp sz mo ms hpk hsh vn wd wa pkk pxx bp bi pl cd rn rch rtn rdp rsh : Int) (val oc rs U : Int → Int) (hn : 1 ≤ vn ∧ vn ≤ 400) (hwd : 1 ≤ wd ∧ wd ≤ 17) (hv9 : vOk val vn) (hoo : 0 ≤ mo ∧ mo ≤ 4) (hos : 0 ≤ ms ∧ ms ≤ 15) (hcf : cfOk oc) : Ctr l g yX12_bestKind cX12_bestKind 7 (some .int) 5 150 0 0 [.ref n0] [(n0, oX12 th dp my sm st sz mo ms yb hpk pkr rt rk rx hsh si gt va vn wd wa re ua pkk pxx bp mk bi pl cd rn rch rtn rdp rki rea rby rsh), (va, aI g 400 val), (yb, aI g 4 oc), (re, aL g 400 rs), (ua, aL g 400 U)] (fun vv ww => ∃ (r bp2 pk2 px2 : Int) (rs2 U2 : Int → Int), vv = some (.int (iI r)) ∧ ww = [(n0, oX12 th dp my sm st sz mo ms yb hpk pkr rt rk rx hsh si gt va vn wd wa re ua pk2 px2 bp2 mk bi pl cd rn rch rtn rdp rki rea rby rsh), (va, aI g 400 val), (yb, aI g 4 oc), (re, aL g 400 rs2), (ua, aL g 400 U2)] ∧ r = (bK (prF val vn wd mo ms oc) 7).2 ∧ 0 ≤ r ∧ r ≤ 7) := by
  refine Ctr.of [(0, .ref n0)] (by decide) (Nat.le_of_ble_eq_true rfl) rfl ?_
  intro x hxl hxg jb jr hin
  subst hxl; subst hxg
  refine j_iconst jb dX12_bestKind_0 ?_
  refine j_istore_n (lv' := [(1, .int (iI 1)), (0, .ref n0)]) jb dX12_bestKind_1 rfl (by decide) rfl ?_
  refine j_ldc2 (z := 1000000000) jb q_X12_115 rfl dX12_bestKind_2 ?_
  refine j_lstore_n (lv' := [(2, .long (lI 1000000000)), (1, .int (iI 1)), (0, .ref n0)]) jb dX12_bestKind_5 rfl (by decide) rfl ?_
  refine j_iconst jb dX12_bestKind_6 ?_
  refine j_istore (lv' := [(4, .int (iI 0)), (2, .long (lI 1000000000)), (1, .int (iI 1)), (0, .ref n0)]) jb dX12_bestKind_7 (by decide) rfl ?_
  have L9 : ∀ (fu : Nat) (best bits k bp1 pk1 px1 : Int) (rs1 U1 : Int → Int), (0 ≤ k ∧ k ≤ 8 ∧ (0 ≤ best ∧ best ≤ 7) ∧ (0 ≤ bits ∧ bits ≤ 1000000000) ∧ bInv (prF val vn wd mo ms oc) k bits best) → (8 - k).toNat < fu → JW x 0 0 9 [(0, .ref n0), (1, .int (iI best)), (2, .long (lI bits)), (4, .int (iI k))] [] [(n0, oX12 th dp my sm st sz mo ms yb hpk pkr rt rk rx hsh si gt va vn wd wa re ua pk1 px1 bp1 mk bi pl cd rn rch rtn rdp rki rea rby rsh), (va, aI x.g 400 val), (yb, aI x.g 4 oc), (re, aL x.g 400 rs1), (ua, aL x.g 400 U1)] := by
    intro fu
    induction fu with
    | zero => intro best bits k bp1 pk1 px1 rs1 U1 _ hm; exact absurd hm (by omega)
    | succ fu ih =>
      intro best bits k bp1 pk1 px1 rs1 U1 ⟨hi1, hi2, hi3, hi4, hi5⟩ hm9
      have ih9 := ih
      clear ih
      refine j_iload jb dX12_bestKind_9 3 rfl ?_
      refine j_bipush jb dX12_bestKind_11 (by decide) ?_
      refine j_icmp_ge (tgt := 43) jb dX12_bestKind_13 (by decide) (by omega) (by omega) (fun c_13 => ?_) (fun c_13 => ?_)
      · skip
        refine j_iload_n jb dX12_bestKind_43 1 rfl ?_
        refine j_norm (lv' := []) (st' := [.int (iI best)]) (ws' := [(n0, oX12 th dp my sm st sz mo ms yb hpk pkr rt rk rx hsh si gt va vn wd wa re ua pk1 px1 bp1 mk bi pl cd rn rch rtn rdp rki rea rby rsh), (va, aI x.g 400 val), (yb, aI x.g 4 oc), (re, aL x.g 400 rs1), (ua, aL x.g 400 U1)]) [] [0, 1, 2, 3, 4] rfl rfl (by decide) rfl ?_
        exact j_iret jb jr dX12_bestKind_44 ⟨_, _, _, _, _, _, rfl, rfl, (by have hnw0 : 0 ≤ vn * wd := Int.mul_nonneg (by omega) (by omega); have z := bInv_end (by omega) (show price val vn wd mo ms oc 1 ≠ -1 by rw [price_1]; omega) hi5; exact ⟨z.1, by omega, by omega⟩)⟩
      · skip
        refine j_aload_n jb dX12_bestKind_16 0 rfl ?_
        refine j_iload jb dX12_bestKind_17 3 rfl ?_
        refine j_callV (wr := []) jb k_X12_bitsOf i_X12_bitsOf s_X12_bitsOf l_X12_156 (C_X12_bitsOf x.l x.g n0 my sm st yb pkr rt rk rx si gt va re ua mk rki rea rby th dp sz mo ms hpk hsh vn wd wa pk1 px1 bp1 bi pl cd rn rch rtn rdp rsh k val oc rs1 U1 (by omega) (by omega) hv9 (by omega) (by omega) hcf (by omega)) 0 14 rfl rfl rfl [0, 1, 2, 3, 4] [] (by decide) rfl rfl (by decide) (by decide) rfl rfl (Nat.le_of_ble_eq_true rfl) (by decide) dX12_bestKind_19 (fun v w hp => ?_)
        obtain ⟨rb, bp3, pk3, px3, rs3, U3, rfl, rfl, h19⟩ := hp
        refine j_norm (lv' := [(0, .ref n0), (1, .int (iI best)), (2, .long (lI bits)), (4, .int (iI k))]) (st' := [.long (lI rb)]) (ws' := [(n0, oX12 th dp my sm st sz mo ms yb hpk pkr rt rk rx hsh si gt va vn wd wa re ua pk3 px3 bp3 mk bi pl cd rn rch rtn rdp rki rea rby rsh), (va, aI x.g 400 val), (yb, aI x.g 4 oc), (re, aL x.g 400 rs3), (ua, aL x.g 400 U3)]) [0, 1, 2, 3] [0, 1, 2, 3, 4] rfl rfl (by decide) rfl ?_
        have hri := isPr_in hn (by omega) hoo (by omega) h19.1
        have hprk : isPr (prF val vn wd mo ms oc k.toNat) rb := by (show isPr (price val vn wd mo ms oc (k.toNat : Int)) rb; rw [show (k.toNat : Int) = k by omega]; exact h19.1)
        have hrl : ¬ prF val vn wd mo ms oc k.toNat = -1 → rb < 1000000000 := by (show ¬ price val vn wd mo ms oc (k.toNat : Int) = -1 → _; rw [show (k.toNat : Int) = k by omega]; exact isPr_lt hn (by omega) hoo (by omega) h19.1)
        refine j_lstore (lv' := [(5, .long (lI rb)), (0, .ref n0), (1, .int (iI best)), (2, .long (lI bits)), (4, .int (iI k))]) jb dX12_bestKind_22 (by decide) rfl ?_
        refine j_lload jb dX12_bestKind_24 0 rfl ?_
        refine j_lload_n jb dX12_bestKind_26 3 rfl ?_
        refine j_lcmp_ge (tgt := 37) jb dX12_bestKind_27 dX12_bestKind_28 (by decide) (by omega) (by omega) (fun c_27 => ?_) (fun c_27 => ?_)
        · skip
          refine j_iinc (lv' := [(4, .int (iI (k + 1))), (5, .long (lI rb)), (0, .ref n0), (1, .int (iI best)), (2, .long (lI bits))]) jb dX12_bestKind_37 4 rfl (by decide) rfl ?_
          refine j_goto (tgt := 9) jb dX12_bestKind_40 (by decide) ?_
          refine j_norm (lv' := [(0, .ref n0), (1, .int (iI best)), (2, .long (lI bits)), (4, .int (iI (k + 1)))]) (st' := []) (ws' := [(n0, oX12 th dp my sm st sz mo ms yb hpk pkr rt rk rx hsh si gt va vn wd wa re ua pk3 px3 bp3 mk bi pl cd rn rch rtn rdp rki rea rby rsh), (va, aI x.g 400 val), (yb, aI x.g 4 oc), (re, aL x.g 400 rs3), (ua, aL x.g 400 U3)]) [2, 3, 4, 0] [0, 1, 2, 3, 4] rfl rfl (by decide) rfl ?_
          exact ih9 best bits (k + 1) bp3 pk3 px3 rs3 U3 (by first | exact ⟨by omega, by omega, by omega, by omega, bInv_new hi1 hi5 (Or.elim hprk (fun q => absurd q.2 (by omega)) (fun q => ⟨q.1, q.2⟩)) (by omega)⟩ | exact ⟨by omega, by omega, by omega, by omega, bInv_old hi1 hi5 (Or.elim hprk (fun q => Or.inl ⟨q.1, q.2⟩) (fun q => Or.inr ⟨q.1, q.2, hrl q.1⟩)) (by omega)⟩) (by omega)
        · skip
          refine j_lload jb dX12_bestKind_31 0 rfl ?_
          refine j_lstore_n (lv' := [(2, .long (lI rb)), (5, .long (lI rb)), (0, .ref n0), (1, .int (iI best)), (4, .int (iI k))]) jb dX12_bestKind_33 rfl (by decide) rfl ?_
          refine j_iload jb dX12_bestKind_34 4 rfl ?_
          refine j_istore_n (lv' := [(1, .int (iI k)), (2, .long (lI rb)), (5, .long (lI rb)), (0, .ref n0), (4, .int (iI k))]) jb dX12_bestKind_36 rfl (by decide) rfl ?_
          refine j_iinc (lv' := [(4, .int (iI (k + 1))), (1, .int (iI k)), (2, .long (lI rb)), (5, .long (lI rb)), (0, .ref n0)]) jb dX12_bestKind_37 4 rfl (by decide) rfl ?_
          refine j_goto (tgt := 9) jb dX12_bestKind_40 (by decide) ?_
          refine j_norm (lv' := [(0, .ref n0), (1, .int (iI k)), (2, .long (lI rb)), (4, .int (iI (k + 1)))]) (st' := []) (ws' := [(n0, oX12 th dp my sm st sz mo ms yb hpk pkr rt rk rx hsh si gt va vn wd wa re ua pk3 px3 bp3 mk bi pl cd rn rch rtn rdp rki rea rby rsh), (va, aI x.g 400 val), (yb, aI x.g 4 oc), (re, aL x.g 400 rs3), (ua, aL x.g 400 U3)]) [4, 1, 2, 0] [0, 1, 2, 3, 4] rfl rfl (by decide) rfl ?_
          exact ih9 k rb (k + 1) bp3 pk3 px3 rs3 U3 (by first | exact ⟨by omega, by omega, by omega, by omega, bInv_new hi1 hi5 (Or.elim hprk (fun q => absurd q.2 (by omega)) (fun q => ⟨q.1, q.2⟩)) (by omega)⟩ | exact ⟨by omega, by omega, by omega, by omega, bInv_old hi1 hi5 (Or.elim hprk (fun q => Or.inl ⟨q.1, q.2⟩) (fun q => Or.inr ⟨q.1, q.2, hrl q.1⟩)) (by omega)⟩) (by omega)
  refine j_norm (lv' := [(0, .ref n0), (1, .int (iI 1)), (2, .long (lI 1000000000)), (4, .int (iI 0))]) (st' := []) (ws' := [(n0, oX12 th dp my sm st sz mo ms yb hpk pkr rt rk rx hsh si gt va vn wd wa re ua pkk pxx bp mk bi pl cd rn rch rtn rdp rki rea rby rsh), (va, aI x.g 400 val), (yb, aI x.g 4 oc), (re, aL x.g 400 rs), (ua, aL x.g 400 U)]) [3, 2, 1, 0] [0, 1, 2, 3, 4] rfl rfl (by decide) rfl ?_
  exact L9 _ 1 1000000000 0 bp pkk pxx rs U ⟨by decide, by decide, by decide, by decide, Or.inl ⟨rfl, rfl⟩⟩ (Nat.lt_succ_self _)

