set_option maxHeartbeats 4000000 in
set_option maxRecDepth 100000 in
theorem C_X12_put (l : Launch) (g : GG) (n0 my sm st yb pkr rt rk rx si gt va re ua mk rki rea rby : Nat) (th dp sz mo ms hpk hsh vn wd wa pkk pxx bp bi pl cd rn rch rtn rdp rsh : Int) (z w : Int) (M : Int → Int) (hz : inL z) (hw : 0 ≤ w ∧ w ≤ 32) (hb : 0 ≤ bi ∧ bi + w ≤ 32000) (hM : ∀ j, 0 ≤ j → j < 4000 → 0 ≤ M j ∧ M j < 256) (ht : tl M bi) : Ctr l g yX12_put cX12_put 5 none 0 0 0 0 [.ref n0, .long (lI z), .int (iI w)] [(n0, oX12 th dp my sm st sz mo ms yb hpk pkr rt rk rx hsh si gt va vn wd wa re ua pkk pxx bp mk bi pl cd rn rch rtn rdp rki rea rby rsh), (mk, aI g 4000 M)] (fun vv ww => ∃ (bi2 : Int) (M2 : Int → Int), vv = none ∧ ww = [(n0, oX12 th dp my sm st sz mo ms yb hpk pkr rt rk rx hsh si gt va vn wd wa re ua pkk pxx bp mk bi2 pl cd rn rch rtn rdp rki rea rby rsh), (mk, aI g 4000 M2)] ∧ bi2 = bi + w ∧ wrote 4000 M bi (nb z w.toNat w.toNat) M2 ∧ tl M2 bi2) := by
  refine Ctr.of [(0, .ref n0), (1, .long (lI z)), (3, .int (iI w))] (by decide) (Nat.le_of_ble_eq_true rfl) rfl ?_
  intro x hxl hxg jb jr hin
  subst hxl; subst hxg
  refine j_iload_n jb dX12_put_0 2 rfl ?_
  refine j_iconst jb dX12_put_1 ?_
  refine j_isub jb dX12_put_2 ?_
  refine j_istore (lv' := [(4, .int (iI (w - 1))), (0, .ref n0), (1, .long (lI z)), (3, .int (iI w))]) jb dX12_put_3 (by decide) rfl ?_
  have L5 : ∀ (fu : Nat) (k q : Int) (M1 : Int → Int), (-1 ≤ k ∧ k ≤ w - 1 ∧ q = bi + (w - 1 - k) ∧ wrote 4000 M bi (nb z w.toNat (w - 1 - k).toNat) M1 ∧ tl M1 q) → (k + 1).toNat < fu → JW x 0 0 5 [(0, .ref n0), (1, .long (lI z)), (3, .int (iI w)), (4, .int (iI k))] [] [(n0, oX12 th dp my sm st sz mo ms yb hpk pkr rt rk rx hsh si gt va vn wd wa re ua pkk pxx bp mk q pl cd rn rch rtn rdp rki rea rby rsh), (mk, aI x.g 4000 M1)] := by
    intro fu
    induction fu with
    | zero => intro k q M1 _ hm; exact absurd hm (by omega)
    | succ fu ih =>
      intro k q M1 ⟨hi1, hi2, hi3, hi4, hi5⟩ hm5
      have ih5 := ih
      clear ih
      refine j_iload jb dX12_put_5 3 rfl ?_
      refine j_if_lt (tgt := 82) jb dX12_put_7 (by decide) (by omega) (fun c_7 => ?_) (fun c_7 => ?_)
      · skip
        refine j_norm (lv' := []) (st' := []) (ws' := [(n0, oX12 th dp my sm st sz mo ms yb hpk pkr rt rk rx hsh si gt va vn wd wa re ua pkk pxx bp mk q pl cd rn rch rtn rdp rki rea rby rsh), (mk, aI x.g 4000 M1)]) [] [0, 1] rfl rfl (by decide) rfl ?_
        exact j_vret jb jr dX12_put_82 ⟨_, _, rfl, rfl, (by rw [show k = -1 by omega] at hi3 hi4; exact ⟨by omega, by rw [show w.toNat = (w - 1 - -1).toNat by omega] at hi4 ⊢; exact hi4, hi5⟩)⟩
      · skip
        refine j_aload_n jb dX12_put_10 0 rfl ?_
        refine j_get jb f_X12_163 dX12_put_11 0 rfl rfl ?_
        refine j_bipush jb dX12_put_14 (by decide) ?_
        refine j_irem jb dX12_put_16 (by omega) ?_
        have J33 : ∀ (M3 : Int → Int), (wrote 4000 M1 q [] M3 ∧ M3 (q / 8) % 2 ^ (8 - q % 8).toNat = 0) → JW x 0 0 33 [(0, .ref n0), (1, .long (lI z)), (3, .int (iI w)), (4, .int (iI k))] [] [(n0, oX12 th dp my sm st sz mo ms yb hpk pkr rt rk rx hsh si gt va vn wd wa re ua pkk pxx bp mk q pl cd rn rch rtn rdp rki rea rby rsh), (mk, aI x.g 4000 M3)] := by
          intro M3 hm3
          refine j_aload_n jb dX12_put_33 0 rfl ?_
          refine j_get jb f_X12_57 dX12_put_34 0 rfl rfl ?_
          refine j_aload_n jb dX12_put_37 0 rfl ?_
          refine j_get jb f_X12_163 dX12_put_38 0 rfl rfl ?_
          refine j_bipush jb dX12_put_41 (by decide) ?_
          refine j_idiv jb dX12_put_43 (by omega) ?_
          refine j_dup2 jb dX12_put_44 rfl rfl ?_
          refine j_iald jb dX12_put_45 1 rfl (by omega) (by decide) ?_
          refine j_lload_n jb dX12_put_46 1 rfl ?_
          refine j_iload jb dX12_put_47 3 rfl ?_
          refine j_lshr jb dX12_put_49 (by omega) (by omega) ?_
          refine j_lconst (z := 1) jb dX12_put_50 rfl ?_
          refine j_land jb dX12_put_51 ?_
          refine j_topl (z / 2 ^ k.toNat % 2) (zAndL_1 _) ?_
          refine j_l2i jb dX12_put_52 ?_
          refine j_bipush jb dX12_put_53 (by decide) ?_
          refine j_aload_n jb dX12_put_55 0 rfl ?_
          refine j_get jb f_X12_163 dX12_put_56 0 rfl rfl ?_
          refine j_bipush jb dX12_put_59 (by decide) ?_
          refine j_irem jb dX12_put_61 (by omega) ?_
          refine j_isub jb dX12_put_62 ?_
          refine j_ishl jb dX12_put_63 (by omega) ?_
          refine j_ior jb dX12_put_64 ?_
          refine j_iast (ws' := [(n0, oX12 th dp my sm st sz mo ms yb hpk pkr rt rk rx hsh si gt va vn wd wa re ua pkk pxx bp mk q pl cd rn rch rtn rdp rki rea rby rsh), (mk, aI x.g 4000 (zup M3 (q / 8) (zOr (M3 (q / 8)) ((z / 2 ^ k.toNat % 2) * 2 ^ (7 - (q % 8)).toNat))))]) jb dX12_put_65 1 rfl (by omega) (by decide) rfl ?_
          refine j_aload_n jb dX12_put_66 0 rfl ?_
          refine j_dup jb dX12_put_67 rfl ?_
          refine j_get jb f_X12_163 dX12_put_68 0 rfl rfl ?_
          refine j_iconst jb dX12_put_71 ?_
          refine j_iadd jb dX12_put_72 ?_
          refine j_put (ws' := [(n0, oX12 th dp my sm st sz mo ms yb hpk pkr rt rk rx hsh si gt va vn wd wa re ua pkk pxx bp mk (q + 1) pl cd rn rch rtn rdp rki rea rby rsh), (mk, aI x.g 4000 (zup M3 (q / 8) (zOr (M3 (q / 8)) ((z / 2 ^ k.toNat % 2) * 2 ^ (7 - (q % 8)).toNat))))]) jb f_X12_163 w_X12_27 rfl dX12_put_73 0 rfl rfl rfl (Nat.le_of_ble_eq_true rfl) rfl ?_
          refine j_iinc (lv' := [(4, .int (iI (k + -1))), (0, .ref n0), (1, .long (lI z)), (3, .int (iI w))]) jb dX12_put_76 3 rfl (by decide) rfl ?_
          refine j_goto (tgt := 5) jb dX12_put_79 (by decide) ?_
          refine j_norm (lv' := [(0, .ref n0), (1, .long (lI z)), (3, .int (iI w)), (4, .int (iI (k + -1)))]) (st' := []) (ws' := [(n0, oX12 th dp my sm st sz mo ms yb hpk pkr rt rk rx hsh si gt va vn wd wa re ua pkk pxx bp mk (q + 1) pl cd rn rch rtn rdp rki rea rby rsh), (mk, aI x.g 4000 (zup M3 (q / 8) (zOr (M3 (q / 8)) ((z / 2 ^ k.toNat % 2) * 2 ^ (7 - (q % 8)).toNat))))]) [1, 2, 3, 0] [0, 1] rfl rfl (by decide) rfl ?_
          exact ih5 (k + -1) (q + 1) (zup M3 (q / 8) (zOr (M3 (q / 8)) ((z / 2 ^ k.toNat % 2) * 2 ^ (7 - (q % 8)).toNat))) (by have z9 := wrote_or (N := 4000) hm3.1.1 (show 0 ≤ q by omega) (by omega) (show z / 2 ^ k.toNat % 2 = 0 ∨ z / 2 ^ k.toNat % 2 = 1 by omega) hm3.2; exact ⟨by omega, by omega, by omega, by rw [show w - 1 - (k + -1) = w - 1 - (k - 1) by omega, nb_down (by omega) hi2]; exact wrote_app hi4 (show wrote 4000 M1 q [z / 2 ^ k.toNat % 2] _ from wrote_app hm3.1 z9.1 (by omega) (by show q = q + ((0 : Nat) : Int); omega)) hb.1 (by rw [nb_len]; omega), z9.2⟩) (by omega)
        refine j_if_ne (tgt := 33) jb dX12_put_17 (by decide) (by omega) (fun c_17 => ?_) (fun c_17 => ?_)
        · skip
          refine j_norm (lv' := [(0, .ref n0), (1, .long (lI z)), (3, .int (iI w)), (4, .int (iI k))]) (st' := []) (ws' := [(n0, oX12 th dp my sm st sz mo ms yb hpk pkr rt rk rx hsh si gt va vn wd wa re ua pkk pxx bp mk q pl cd rn rch rtn rdp rki rea rby rsh), (mk, aI x.g 4000 M1)]) [0, 1, 2, 3] [0, 1] rfl rfl (by decide) rfl ?_
          exact J33 M1 ⟨wrote_nil hi4.1, hi5 c_17⟩
        · skip
          refine j_aload_n jb dX12_put_20 0 rfl ?_
          refine j_get jb f_X12_57 dX12_put_21 0 rfl rfl ?_
          refine j_aload_n jb dX12_put_24 0 rfl ?_
          refine j_get jb f_X12_163 dX12_put_25 0 rfl rfl ?_
          refine j_bipush jb dX12_put_28 (by decide) ?_
          refine j_idiv jb dX12_put_30 (by omega) ?_
          refine j_iconst jb dX12_put_31 ?_
          refine j_iast (ws' := [(n0, oX12 th dp my sm st sz mo ms yb hpk pkr rt rk rx hsh si gt va vn wd wa re ua pkk pxx bp mk q pl cd rn rch rtn rdp rki rea rby rsh), (mk, aI x.g 4000 (zup M1 (q / 8) 0))]) jb dX12_put_32 1 rfl (by omega) (by decide) rfl ?_
          refine j_norm (lv' := [(0, .ref n0), (1, .long (lI z)), (3, .int (iI w)), (4, .int (iI k))]) (st' := []) (ws' := [(n0, oX12 th dp my sm st sz mo ms yb hpk pkr rt rk rx hsh si gt va vn wd wa re ua pkk pxx bp mk q pl cd rn rch rtn rdp rki rea rby rsh), (mk, aI x.g 4000 (zup M1 (q / 8) 0))]) [0, 1, 2, 3] [0, 1] rfl rfl (by decide) rfl ?_
          exact J33 (zup M1 (q / 8) 0) (wrote_z hi4.1 c_17)
  refine j_norm (lv' := [(0, .ref n0), (1, .long (lI z)), (3, .int (iI w)), (4, .int (iI (w - 1)))]) (st' := []) (ws' := [(n0, oX12 th dp my sm st sz mo ms yb hpk pkr rt rk rx hsh si gt va vn wd wa re ua pkk pxx bp mk bi pl cd rn rch rtn rdp rki rea rby rsh), (mk, aI x.g 4000 M)]) [1, 2, 3, 0] [0, 1] rfl rfl (by decide) rfl ?_
  exact L5 _ (w - 1) bi M ⟨by omega, by omega, by omega, by rw [show (w - 1 - (w - 1)).toNat = 0 by omega]; exact wrote_nil hM, ht⟩ (Nat.lt_succ_self _)

set_option maxHeartbeats 4000000 in
set_option maxRecDepth 100000 in
theorem C_X12_sumOf_m (l : Launch) (g : GG) (n0 my sm st yb pkr rt rk rx si gt va re ua mk rki rea rby : Nat) (th dp sz mo ms hpk hsh vn wd wa pkk pxx bp bi pl cd rn rch rtn rdp rsh : Int) (fr to : Int) (B : Int → Int) (hft : 0 ≤ fr ∧ fr ≤ to ∧ to ≤ 4000) (hB : ∀ j, 0 ≤ j → j < 4000 → 0 ≤ B j ∧ B j < 256) : Ctr l g yX12_sumOf cX12_sumOf 7 (some .int) 0 0 0 0 [.ref n0, .ref mk, .int (iI fr), .int (iI to)] [(n0, oX12 th dp my sm st sz mo ms yb hpk pkr rt rk rx hsh si gt va vn wd wa re ua pkk pxx bp mk bi pl cd rn rch rtn rdp rki rea rby rsh), (mk, aI g 4000 B)] (fun vv ww => ∃ (r : Int), vv = some (.int (iI r)) ∧ ww = [(n0, oX12 th dp my sm st sz mo ms yb hpk pkr rt rk rx hsh si gt va vn wd wa re ua pkk pxx bp mk bi pl cd rn rch rtn rdp rki rea rby rsh), (mk, aI g 4000 B)] ∧ r = crc B fr (to - fr).toNat ∧ 0 ≤ r ∧ r < 256) := by
  refine Ctr.of [(0, .ref n0), (1, .ref mk), (2, .int (iI fr)), (3, .int (iI to))] (by decide) (Nat.le_of_ble_eq_true rfl) rfl ?_
  intro x hxl hxg jb jr hin
  subst hxl; subst hxg
  refine j_iconst jb dX12_sumOf_0 ?_
  refine j_istore (lv' := [(4, .int (iI 0)), (0, .ref n0), (1, .ref mk), (2, .int (iI fr)), (3, .int (iI to))]) jb dX12_sumOf_1 (by decide) rfl ?_
  refine j_iload_n jb dX12_sumOf_3 3 rfl ?_
  refine j_istore (lv' := [(5, .int (iI fr)), (4, .int (iI 0)), (0, .ref n0), (1, .ref mk), (2, .int (iI fr)), (3, .int (iI to))]) jb dX12_sumOf_4 (by decide) rfl ?_
  have L6 : ∀ (fu : Nat) (s i : Int), (fr ≤ i ∧ i ≤ to ∧ s = crc B fr (i - fr).toNat ∧ (0 ≤ s ∧ s < 256)) → (to - i).toNat < fu → JW x 0 0 6 [(0, .ref n0), (1, .ref mk), (2, .int (iI fr)), (3, .int (iI to)), (4, .int (iI s)), (5, .int (iI i))] [] [(n0, oX12 th dp my sm st sz mo ms yb hpk pkr rt rk rx hsh si gt va vn wd wa re ua pkk pxx bp mk bi pl cd rn rch rtn rdp rki rea rby rsh), (mk, aI x.g 4000 B)] := by
    intro fu
    induction fu with
    | zero => intro s i _ hm; exact absurd hm (by omega)
    | succ fu ih =>
      intro s i ⟨hi1, hi2, hi3, hi4⟩ hm6
      have ih6 := ih
      clear ih
      refine j_iload jb dX12_sumOf_6 5 rfl ?_
      refine j_iload_n jb dX12_sumOf_8 3 rfl ?_
      refine j_icmp_ge (tgt := 70) jb dX12_sumOf_9 (by decide) (by omega) (by omega) (fun c_9 => ?_) (fun c_9 => ?_)
      · skip
        refine j_iload jb dX12_sumOf_70 4 rfl ?_
        refine j_norm (lv' := []) (st' := [.int (iI s)]) (ws' := [(n0, oX12 th dp my sm st sz mo ms yb hpk pkr rt rk rx hsh si gt va vn wd wa re ua pkk pxx bp mk bi pl cd rn rch rtn rdp rki rea rby rsh), (mk, aI x.g 4000 B)]) [] [0, 1] rfl rfl (by decide) rfl ?_
        exact j_iret jb jr dX12_sumOf_72 ⟨_, rfl, rfl, (by rw [show to = i by omega]; exact ⟨hi3, hi4⟩)⟩
      · skip
        refine j_iload jb dX12_sumOf_12 4 rfl ?_
        refine j_aload_n jb dX12_sumOf_14 1 rfl ?_
        refine j_iload jb dX12_sumOf_15 5 rfl ?_
        refine j_iald jb dX12_sumOf_17 1 rfl (by omega) (by decide) ?_
        refine j_ixor jb dX12_sumOf_18 ?_
        refine j_istore (lv' := [(4, .int (iI (zXor s (B i)))), (0, .ref n0), (1, .ref mk), (2, .int (iI fr)), (3, .int (iI to)), (5, .int (iI i))]) jb dX12_sumOf_19 (by decide) rfl ?_
        refine j_iconst jb dX12_sumOf_21 ?_
        refine j_istore (lv' := [(6, .int (iI 0)), (4, .int (iI (zXor s (B i)))), (0, .ref n0), (1, .ref mk), (2, .int (iI fr)), (3, .int (iI to)), (5, .int (iI i))]) jb dX12_sumOf_22 (by decide) rfl ?_
        have L24 : ∀ (fu : Nat) (s2 t : Int), (0 ≤ t ∧ t ≤ 8 ∧ s2 = crcR t.toNat (zXor s (B i)) ∧ (0 ≤ s2 ∧ s2 < 256)) → (8 - t).toNat < fu → JW x 0 0 24 [(0, .ref n0), (1, .ref mk), (2, .int (iI fr)), (3, .int (iI to)), (4, .int (iI s2)), (5, .int (iI i)), (6, .int (iI t))] [] [(n0, oX12 th dp my sm st sz mo ms yb hpk pkr rt rk rx hsh si gt va vn wd wa re ua pkk pxx bp mk bi pl cd rn rch rtn rdp rki rea rby rsh), (mk, aI x.g 4000 B)] := by
          intro fu
          induction fu with
          | zero => intro s2 t _ hm; exact absurd hm (by omega)
          | succ fu ih =>
            intro s2 t ⟨ht1, ht2, ht3, ht4⟩ hm24
            have ih24 := ih
            clear ih
            refine j_iload jb dX12_sumOf_24 6 rfl ?_
            refine j_bipush jb dX12_sumOf_26 (by decide) ?_
            refine j_icmp_ge (tgt := 64) jb dX12_sumOf_28 (by decide) (by omega) (by omega) (fun c_28 => ?_) (fun c_28 => ?_)
            · skip
              refine j_iinc (lv' := [(5, .int (iI (i + 1))), (0, .ref n0), (1, .ref mk), (2, .int (iI fr)), (3, .int (iI to)), (4, .int (iI s2)), (6, .int (iI t))]) jb dX12_sumOf_64 5 rfl (by decide) rfl ?_
              refine j_goto (tgt := 6) jb dX12_sumOf_67 (by decide) ?_
              refine j_norm (lv' := [(0, .ref n0), (1, .ref mk), (2, .int (iI fr)), (3, .int (iI to)), (4, .int (iI s2)), (5, .int (iI (i + 1)))]) (st' := []) (ws' := [(n0, oX12 th dp my sm st sz mo ms yb hpk pkr rt rk rx hsh si gt va vn wd wa re ua pkk pxx bp mk bi pl cd rn rch rtn rdp rki rea rby rsh), (mk, aI x.g 4000 B)]) [1, 2, 3, 4, 5, 0] [0, 1] rfl rfl (by decide) rfl ?_
              exact ih6 s2 (i + 1) ⟨by omega, by omega, by rw [crc_next hi1 hi3, ht3, show t = 8 by omega]; rfl, ht4⟩ (by omega)
            · skip
              refine j_iconst jb dX12_sumOf_31 ?_
              refine j_iload jb dX12_sumOf_32 4 rfl ?_
              refine j_imul jb dX12_sumOf_34 ?_
              refine j_istore (lv' := [(4, .int (iI (2 * s2))), (0, .ref n0), (1, .ref mk), (2, .int (iI fr)), (3, .int (iI to)), (5, .int (iI i)), (6, .int (iI t))]) jb dX12_sumOf_35 (by decide) rfl ?_
              refine j_iload jb dX12_sumOf_37 0 rfl ?_
              refine j_sipush jb dX12_sumOf_39 (by decide) ?_
              refine j_icmp_le (tgt := 54) jb dX12_sumOf_42 (by decide) (by omega) (by omega) (fun c_42 => ?_) (fun c_42 => ?_)
              · skip
                refine j_iload jb dX12_sumOf_54 0 rfl ?_
                refine j_istore (lv' := [(4, .int (iI (2 * s2))), (0, .ref n0), (1, .ref mk), (2, .int (iI fr)), (3, .int (iI to)), (5, .int (iI i)), (6, .int (iI t))]) jb dX12_sumOf_56 (by decide) rfl ?_
                refine j_iinc (lv' := [(6, .int (iI (t + 1))), (4, .int (iI (2 * s2))), (0, .ref n0), (1, .ref mk), (2, .int (iI fr)), (3, .int (iI to)), (5, .int (iI i))]) jb dX12_sumOf_58 6 rfl (by decide) rfl ?_
                refine j_goto (tgt := 24) jb dX12_sumOf_61 (by decide) ?_
                refine j_norm (lv' := [(0, .ref n0), (1, .ref mk), (2, .int (iI fr)), (3, .int (iI to)), (4, .int (iI (2 * s2))), (5, .int (iI i)), (6, .int (iI (t + 1)))]) (st' := []) (ws' := [(n0, oX12 th dp my sm st sz mo ms yb hpk pkr rt rk rx hsh si gt va vn wd wa re ua pkk pxx bp mk bi pl cd rn rch rtn rdp rki rea rby rsh), (mk, aI x.g 4000 B)]) [2, 3, 4, 5, 1, 6, 0] [0, 1] rfl rfl (by decide) rfl ?_
                exact ih24 (2 * s2) (t + 1) (by have z := crc1_in ht4; have y := crc_step ht1 ht3; first | (have x9 := crc1_lo (s := s2) (by omega)); exact ⟨by omega, by omega, by rw [y, x9]; omega, by omega⟩ | (have x9 := crc1_hi (s := s2) (by omega)); rw [Int.mul_comm s2 2] at x9; rw [x9] at y z; exact ⟨by omega, by omega, y.symm, z⟩) (by omega)
              · skip
                refine j_iload jb dX12_sumOf_45 0 rfl ?_
                refine j_sipush jb dX12_sumOf_47 (by decide) ?_
                refine j_ixor jb dX12_sumOf_50 ?_
                refine j_goto (tgt := 56) jb dX12_sumOf_51 (by decide) ?_
                refine j_istore (lv' := [(4, .int (iI (zXor (2 * s2) 263))), (0, .ref n0), (1, .ref mk), (2, .int (iI fr)), (3, .int (iI to)), (5, .int (iI i)), (6, .int (iI t))]) jb dX12_sumOf_56 (by decide) rfl ?_
                refine j_iinc (lv' := [(6, .int (iI (t + 1))), (4, .int (iI (zXor (2 * s2) 263))), (0, .ref n0), (1, .ref mk), (2, .int (iI fr)), (3, .int (iI to)), (5, .int (iI i))]) jb dX12_sumOf_58 6 rfl (by decide) rfl ?_
                refine j_goto (tgt := 24) jb dX12_sumOf_61 (by decide) ?_
                refine j_norm (lv' := [(0, .ref n0), (1, .ref mk), (2, .int (iI fr)), (3, .int (iI to)), (4, .int (iI (zXor (2 * s2) 263))), (5, .int (iI i)), (6, .int (iI (t + 1)))]) (st' := []) (ws' := [(n0, oX12 th dp my sm st sz mo ms yb hpk pkr rt rk rx hsh si gt va vn wd wa re ua pkk pxx bp mk bi pl cd rn rch rtn rdp rki rea rby rsh), (mk, aI x.g 4000 B)]) [2, 3, 4, 5, 1, 6, 0] [0, 1] rfl rfl (by decide) rfl ?_
                exact ih24 (zXor (2 * s2) 263) (t + 1) (by have z := crc1_in ht4; have y := crc_step ht1 ht3; first | (have x9 := crc1_lo (s := s2) (by omega)); exact ⟨by omega, by omega, by rw [y, x9]; omega, by omega⟩ | (have x9 := crc1_hi (s := s2) (by omega)); rw [Int.mul_comm s2 2] at x9; rw [x9] at y z; exact ⟨by omega, by omega, y.symm, z⟩) (by omega)
        refine j_norm (lv' := [(0, .ref n0), (1, .ref mk), (2, .int (iI fr)), (3, .int (iI to)), (4, .int (iI (zXor s (B i)))), (5, .int (iI i)), (6, .int (iI 0))]) (st' := []) (ws' := [(n0, oX12 th dp my sm st sz mo ms yb hpk pkr rt rk rx hsh si gt va vn wd wa re ua pkk pxx bp mk bi pl cd rn rch rtn rdp rki rea rby rsh), (mk, aI x.g 4000 B)]) [2, 3, 4, 5, 1, 6, 0] [0, 1] rfl rfl (by decide) rfl ?_
        exact L24 _ (zXor s (B i)) 0 ⟨by decide, by decide, rfl, zXor_8 hi4 (hB i (by omega) (by omega))⟩ (Nat.lt_succ_self _)
  refine j_norm (lv' := [(0, .ref n0), (1, .ref mk), (2, .int (iI fr)), (3, .int (iI to)), (4, .int (iI 0)), (5, .int (iI fr))]) (st' := []) (ws' := [(n0, oX12 th dp my sm st sz mo ms yb hpk pkr rt rk rx hsh si gt va vn wd wa re ua pkk pxx bp mk bi pl cd rn rch rtn rdp rki rea rby rsh), (mk, aI x.g 4000 B)]) [2, 3, 4, 5, 1, 0] [0, 1] rfl rfl (by decide) rfl ?_
  exact L6 _ 0 fr ⟨Int.le_refl _, hft.2.1, by rw [Int.sub_self]; rfl, by decide⟩ (Nat.lt_succ_self _)

set_option maxHeartbeats 4000000 in
set_option maxRecDepth 100000 in
theorem C_X12_sumOf_s (l : Launch) (g : GG) (n0 my sm st yb pkr rt rk rx si gt va re ua mk rki rea rby : Nat) (th dp sz mo ms hpk hsh vn wd wa pkk pxx bp bi pl cd rn rch rtn rdp rsh : Int) (fr to : Int) (B : Int → Int) (hft : 0 ≤ fr ∧ fr ≤ to ∧ to ≤ 2400) (hB : ∀ j, 0 ≤ j → j < 2400 → 0 ≤ B j ∧ B j < 256) : Ctr l g yX12_sumOf cX12_sumOf 7 (some .int) 0 0 0 0 [.ref n0, .ref st, .int (iI fr), .int (iI to)] [(n0, oX12 th dp my sm st sz mo ms yb hpk pkr rt rk rx hsh si gt va vn wd wa re ua pkk pxx bp mk bi pl cd rn rch rtn rdp rki rea rby rsh), (st, aI g 2400 B)] (fun vv ww => ∃ (r : Int), vv = some (.int (iI r)) ∧ ww = [(n0, oX12 th dp my sm st sz mo ms yb hpk pkr rt rk rx hsh si gt va vn wd wa re ua pkk pxx bp mk bi pl cd rn rch rtn rdp rki rea rby rsh), (st, aI g 2400 B)] ∧ r = crc B fr (to - fr).toNat ∧ 0 ≤ r ∧ r < 256) := by
  refine Ctr.of [(0, .ref n0), (1, .ref st), (2, .int (iI fr)), (3, .int (iI to))] (by decide) (Nat.le_of_ble_eq_true rfl) rfl ?_
  intro x hxl hxg jb jr hin
  subst hxl; subst hxg
  refine j_iconst jb dX12_sumOf_0 ?_
  refine j_istore (lv' := [(4, .int (iI 0)), (0, .ref n0), (1, .ref st), (2, .int (iI fr)), (3, .int (iI to))]) jb dX12_sumOf_1 (by decide) rfl ?_
  refine j_iload_n jb dX12_sumOf_3 3 rfl ?_
  refine j_istore (lv' := [(5, .int (iI fr)), (4, .int (iI 0)), (0, .ref n0), (1, .ref st), (2, .int (iI fr)), (3, .int (iI to))]) jb dX12_sumOf_4 (by decide) rfl ?_
  have L6 : ∀ (fu : Nat) (s i : Int), (fr ≤ i ∧ i ≤ to ∧ s = crc B fr (i - fr).toNat ∧ (0 ≤ s ∧ s < 256)) → (to - i).toNat < fu → JW x 0 0 6 [(0, .ref n0), (1, .ref st), (2, .int (iI fr)), (3, .int (iI to)), (4, .int (iI s)), (5, .int (iI i))] [] [(n0, oX12 th dp my sm st sz mo ms yb hpk pkr rt rk rx hsh si gt va vn wd wa re ua pkk pxx bp mk bi pl cd rn rch rtn rdp rki rea rby rsh), (st, aI x.g 2400 B)] := by
    intro fu
    induction fu with
    | zero => intro s i _ hm; exact absurd hm (by omega)
    | succ fu ih =>
      intro s i ⟨hi1, hi2, hi3, hi4⟩ hm6
      have ih6 := ih
      clear ih
      refine j_iload jb dX12_sumOf_6 5 rfl ?_
      refine j_iload_n jb dX12_sumOf_8 3 rfl ?_
      refine j_icmp_ge (tgt := 70) jb dX12_sumOf_9 (by decide) (by omega) (by omega) (fun c_9 => ?_) (fun c_9 => ?_)
      · skip
        refine j_iload jb dX12_sumOf_70 4 rfl ?_
        refine j_norm (lv' := []) (st' := [.int (iI s)]) (ws' := [(n0, oX12 th dp my sm st sz mo ms yb hpk pkr rt rk rx hsh si gt va vn wd wa re ua pkk pxx bp mk bi pl cd rn rch rtn rdp rki rea rby rsh), (st, aI x.g 2400 B)]) [] [0, 1] rfl rfl (by decide) rfl ?_
        exact j_iret jb jr dX12_sumOf_72 ⟨_, rfl, rfl, (by rw [show to = i by omega]; exact ⟨hi3, hi4⟩)⟩
      · skip
        refine j_iload jb dX12_sumOf_12 4 rfl ?_
        refine j_aload_n jb dX12_sumOf_14 1 rfl ?_
        refine j_iload jb dX12_sumOf_15 5 rfl ?_
        refine j_iald jb dX12_sumOf_17 1 rfl (by omega) (by decide) ?_
        refine j_ixor jb dX12_sumOf_18 ?_
        refine j_istore (lv' := [(4, .int (iI (zXor s (B i)))), (0, .ref n0), (1, .ref st), (2, .int (iI fr)), (3, .int (iI to)), (5, .int (iI i))]) jb dX12_sumOf_19 (by decide) rfl ?_
        refine j_iconst jb dX12_sumOf_21 ?_
        refine j_istore (lv' := [(6, .int (iI 0)), (4, .int (iI (zXor s (B i)))), (0, .ref n0), (1, .ref st), (2, .int (iI fr)), (3, .int (iI to)), (5, .int (iI i))]) jb dX12_sumOf_22 (by decide) rfl ?_
        have L24 : ∀ (fu : Nat) (s2 t : Int), (0 ≤ t ∧ t ≤ 8 ∧ s2 = crcR t.toNat (zXor s (B i)) ∧ (0 ≤ s2 ∧ s2 < 256)) → (8 - t).toNat < fu → JW x 0 0 24 [(0, .ref n0), (1, .ref st), (2, .int (iI fr)), (3, .int (iI to)), (4, .int (iI s2)), (5, .int (iI i)), (6, .int (iI t))] [] [(n0, oX12 th dp my sm st sz mo ms yb hpk pkr rt rk rx hsh si gt va vn wd wa re ua pkk pxx bp mk bi pl cd rn rch rtn rdp rki rea rby rsh), (st, aI x.g 2400 B)] := by
          intro fu
          induction fu with
          | zero => intro s2 t _ hm; exact absurd hm (by omega)
          | succ fu ih =>
            intro s2 t ⟨ht1, ht2, ht3, ht4⟩ hm24
            have ih24 := ih
            clear ih
            refine j_iload jb dX12_sumOf_24 6 rfl ?_
            refine j_bipush jb dX12_sumOf_26 (by decide) ?_
            refine j_icmp_ge (tgt := 64) jb dX12_sumOf_28 (by decide) (by omega) (by omega) (fun c_28 => ?_) (fun c_28 => ?_)
            · skip
              refine j_iinc (lv' := [(5, .int (iI (i + 1))), (0, .ref n0), (1, .ref st), (2, .int (iI fr)), (3, .int (iI to)), (4, .int (iI s2)), (6, .int (iI t))]) jb dX12_sumOf_64 5 rfl (by decide) rfl ?_
              refine j_goto (tgt := 6) jb dX12_sumOf_67 (by decide) ?_
              refine j_norm (lv' := [(0, .ref n0), (1, .ref st), (2, .int (iI fr)), (3, .int (iI to)), (4, .int (iI s2)), (5, .int (iI (i + 1)))]) (st' := []) (ws' := [(n0, oX12 th dp my sm st sz mo ms yb hpk pkr rt rk rx hsh si gt va vn wd wa re ua pkk pxx bp mk bi pl cd rn rch rtn rdp rki rea rby rsh), (st, aI x.g 2400 B)]) [1, 2, 3, 4, 5, 0] [0, 1] rfl rfl (by decide) rfl ?_
              exact ih6 s2 (i + 1) ⟨by omega, by omega, by rw [crc_next hi1 hi3, ht3, show t = 8 by omega]; rfl, ht4⟩ (by omega)
            · skip
              refine j_iconst jb dX12_sumOf_31 ?_
              refine j_iload jb dX12_sumOf_32 4 rfl ?_
              refine j_imul jb dX12_sumOf_34 ?_
              refine j_istore (lv' := [(4, .int (iI (2 * s2))), (0, .ref n0), (1, .ref st), (2, .int (iI fr)), (3, .int (iI to)), (5, .int (iI i)), (6, .int (iI t))]) jb dX12_sumOf_35 (by decide) rfl ?_
              refine j_iload jb dX12_sumOf_37 0 rfl ?_
              refine j_sipush jb dX12_sumOf_39 (by decide) ?_
              refine j_icmp_le (tgt := 54) jb dX12_sumOf_42 (by decide) (by omega) (by omega) (fun c_42 => ?_) (fun c_42 => ?_)
              · skip
                refine j_iload jb dX12_sumOf_54 0 rfl ?_
                refine j_istore (lv' := [(4, .int (iI (2 * s2))), (0, .ref n0), (1, .ref st), (2, .int (iI fr)), (3, .int (iI to)), (5, .int (iI i)), (6, .int (iI t))]) jb dX12_sumOf_56 (by decide) rfl ?_
                refine j_iinc (lv' := [(6, .int (iI (t + 1))), (4, .int (iI (2 * s2))), (0, .ref n0), (1, .ref st), (2, .int (iI fr)), (3, .int (iI to)), (5, .int (iI i))]) jb dX12_sumOf_58 6 rfl (by decide) rfl ?_
                refine j_goto (tgt := 24) jb dX12_sumOf_61 (by decide) ?_
                refine j_norm (lv' := [(0, .ref n0), (1, .ref st), (2, .int (iI fr)), (3, .int (iI to)), (4, .int (iI (2 * s2))), (5, .int (iI i)), (6, .int (iI (t + 1)))]) (st' := []) (ws' := [(n0, oX12 th dp my sm st sz mo ms yb hpk pkr rt rk rx hsh si gt va vn wd wa re ua pkk pxx bp mk bi pl cd rn rch rtn rdp rki rea rby rsh), (st, aI x.g 2400 B)]) [2, 3, 4, 5, 1, 6, 0] [0, 1] rfl rfl (by decide) rfl ?_
                exact ih24 (2 * s2) (t + 1) (by have z := crc1_in ht4; have y := crc_step ht1 ht3; first | (have x9 := crc1_lo (s := s2) (by omega)); exact ⟨by omega, by omega, by rw [y, x9]; omega, by omega⟩ | (have x9 := crc1_hi (s := s2) (by omega)); rw [Int.mul_comm s2 2] at x9; rw [x9] at y z; exact ⟨by omega, by omega, y.symm, z⟩) (by omega)
              · skip
                refine j_iload jb dX12_sumOf_45 0 rfl ?_
                refine j_sipush jb dX12_sumOf_47 (by decide) ?_
                refine j_ixor jb dX12_sumOf_50 ?_
                refine j_goto (tgt := 56) jb dX12_sumOf_51 (by decide) ?_
                refine j_istore (lv' := [(4, .int (iI (zXor (2 * s2) 263))), (0, .ref n0), (1, .ref st), (2, .int (iI fr)), (3, .int (iI to)), (5, .int (iI i)), (6, .int (iI t))]) jb dX12_sumOf_56 (by decide) rfl ?_
                refine j_iinc (lv' := [(6, .int (iI (t + 1))), (4, .int (iI (zXor (2 * s2) 263))), (0, .ref n0), (1, .ref st), (2, .int (iI fr)), (3, .int (iI to)), (5, .int (iI i))]) jb dX12_sumOf_58 6 rfl (by decide) rfl ?_
                refine j_goto (tgt := 24) jb dX12_sumOf_61 (by decide) ?_
                refine j_norm (lv' := [(0, .ref n0), (1, .ref st), (2, .int (iI fr)), (3, .int (iI to)), (4, .int (iI (zXor (2 * s2) 263))), (5, .int (iI i)), (6, .int (iI (t + 1)))]) (st' := []) (ws' := [(n0, oX12 th dp my sm st sz mo ms yb hpk pkr rt rk rx hsh si gt va vn wd wa re ua pkk pxx bp mk bi pl cd rn rch rtn rdp rki rea rby rsh), (st, aI x.g 2400 B)]) [2, 3, 4, 5, 1, 6, 0] [0, 1] rfl rfl (by decide) rfl ?_
                exact ih24 (zXor (2 * s2) 263) (t + 1) (by have z := crc1_in ht4; have y := crc_step ht1 ht3; first | (have x9 := crc1_lo (s := s2) (by omega)); exact ⟨by omega, by omega, by rw [y, x9]; omega, by omega⟩ | (have x9 := crc1_hi (s := s2) (by omega)); rw [Int.mul_comm s2 2] at x9; rw [x9] at y z; exact ⟨by omega, by omega, y.symm, z⟩) (by omega)
        refine j_norm (lv' := [(0, .ref n0), (1, .ref st), (2, .int (iI fr)), (3, .int (iI to)), (4, .int (iI (zXor s (B i)))), (5, .int (iI i)), (6, .int (iI 0))]) (st' := []) (ws' := [(n0, oX12 th dp my sm st sz mo ms yb hpk pkr rt rk rx hsh si gt va vn wd wa re ua pkk pxx bp mk bi pl cd rn rch rtn rdp rki rea rby rsh), (st, aI x.g 2400 B)]) [2, 3, 4, 5, 1, 6, 0] [0, 1] rfl rfl (by decide) rfl ?_
        exact L24 _ (zXor s (B i)) 0 ⟨by decide, by decide, rfl, zXor_8 hi4 (hB i (by omega) (by omega))⟩ (Nat.lt_succ_self _)
  refine j_norm (lv' := [(0, .ref n0), (1, .ref st), (2, .int (iI fr)), (3, .int (iI to)), (4, .int (iI 0)), (5, .int (iI fr))]) (st' := []) (ws' := [(n0, oX12 th dp my sm st sz mo ms yb hpk pkr rt rk rx hsh si gt va vn wd wa re ua pkk pxx bp mk bi pl cd rn rch rtn rdp rki rea rby rsh), (st, aI x.g 2400 B)]) [2, 3, 4, 5, 1, 0] [0, 1] rfl rfl (by decide) rfl ?_
  exact L6 _ 0 fr ⟨Int.le_refl _, hft.2.1, by rw [Int.sub_self]; rfl, by decide⟩ (Nat.lt_succ_self _)

set_option maxHeartbeats 4000000 in
set_option maxRecDepth 100000 in
theorem C_X12_valuesOf (l : Launch) (g : GG) (n0 my sm st yb pkr rt rk rx si gt va re ua mk rki rea rby : Nat) (th dp sz mo ms hpk hsh vn wd wa pkk pxx bp bi pl cd rn rch rtn rdp rsh : Int) (tn q : Int) (cn ss val : Int → Int) (htn : 0 ≤ tn ∧ tn ≤ 3) (hq : 0 ≤ q ∧ q ≤ 1) (hc : 1 ≤ cn 0 ∧ cn 0 ≤ 400) (hdp : 1 ≤ dp ∧ dp ≤ 16) (h0 : ∀ i, 0 ≤ i → i < cn 0 → -32768 ≤ ss i ∧ ss i < 32768) (h1 : (tn = 0 ∧ q = 0) ∨ ∀ i, 0 ≤ i → i < cn 0 → -32768 ≤ ss (400 + i) ∧ ss (400 + i) < 32768) : Ctr l g yX12_valuesOf cX12_valuesOf 8 none 1 30 0 0 [.ref n0, .int (iI tn), .int (iI q)] [(n0, oX12 th dp my sm st sz mo ms yb hpk pkr rt rk rx hsh si gt va vn wd wa re ua pkk pxx bp mk bi pl cd rn rch rtn rdp rki rea rby rsh), (my, aI g 2 cn), (sm, aI g 800 ss), (va, aI g 400 val)] (fun vv ww => ∃ (wa2 wd2 : Int) (v2 : Int → Int), vv = none ∧ ww = [(n0, oX12 th dp my sm st sz mo ms yb hpk pkr rt rk rx hsh si gt va (cn 0) wd2 wa2 re ua pkk pxx bp mk bi pl cd rn rch rtn rdp rki rea rby rsh), (my, aI g 2 cn), (sm, aI g 800 ss), (va, aI g 400 v2)] ∧ isW (orF (selR ss (fun i => ss (400 + i)) (zT tn q)) (cn 0).toNat) (rbJ dp (zT tn q)) wa2 ∧ (0 ≤ wa2 ∧ wa2 ≤ 15 ∧ wa2 ≤ rbJ dp (zT tn q) - 1) ∧ wd2 = rbJ dp (zT tn q) - wa2 ∧ eqOn v2 (sv (selR ss (fun i => ss (400 + i)) (zT tn q)) wa2) 0 (cn 0)) := by
  refine Ctr.of [(0, .ref n0), (1, .int (iI tn)), (2, .int (iI q))] (by decide) (Nat.le_of_ble_eq_true rfl) rfl ?_
  intro x hxl hxg jb jr hin
  subst hxl; subst hxg
  obtain ⟨jt, hjt⟩ : ∃ jt : Int, jt = zT tn q := ⟨_, rfl⟩
  rcases (show (tn = 0 ∧ q = 0) ∨ (tn = 0 ∧ q = 1) ∨ (tn = 1 ∧ q = 0) ∨ (tn = 1 ∧ q = 1) ∨ (tn = 2 ∧ q = 0) ∨ (tn = 2 ∧ q = 1) ∨ (tn = 3 ∧ q = 0) ∨ (tn = 3 ∧ q = 1) by omega) with e | e | e | e | e | e | e | e
  · skip
    obtain ⟨e1, e2⟩ := e
    subst e1; subst e2
    have ejt : jt = 0 := hjt.trans (by decide)
    have h1 : jt = 0 ∨ ∀ i, 0 ≤ i → i < cn 0 → -32768 ≤ ss (400 + i) ∧ ss (400 + i) < 32768 := by (rcases h1 with z | z; { left; rw [hjt]; rfl }; { exact Or.inr z })
    have hrb : rbJ dp jt = dp := by (rw [ejt]; rfl)
    refine j_aload_n jb dX12_valuesOf_0 0 rfl ?_
    refine j_aload_n jb dX12_valuesOf_1 0 rfl ?_
    refine j_get jb f_X12_16 dX12_valuesOf_2 0 rfl rfl ?_
    refine j_iconst jb dX12_valuesOf_5 ?_
    refine j_iald jb dX12_valuesOf_6 1 rfl (by omega) (by decide) ?_
    refine j_put (ws' := [(n0, oX12 th dp my sm st sz mo ms yb hpk pkr rt rk rx hsh si gt va (cn 0) wd wa re ua pkk pxx bp mk bi pl cd rn rch rtn rdp rki rea rby rsh), (my, aI x.g 2 cn), (sm, aI x.g 800 ss), (va, aI x.g 400 val)]) jb f_X12_92 w_X12_18 rfl dX12_valuesOf_7 0 rfl rfl rfl (Nat.le_of_ble_eq_true rfl) rfl ?_
    refine j_iconst jb dX12_valuesOf_10 ?_
    refine j_istore_n (lv' := [(3, .int (iI 0)), (0, .ref n0), (1, .int (iI 0)), (2, .int (iI 0))]) jb dX12_valuesOf_11 rfl (by decide) rfl ?_
    have L12 : ∀ (fu : Nat) (i : Int) (v1 : Int → Int), (0 ≤ i ∧ i ≤ cn 0 ∧ ∀ j, 0 ≤ j → j < i → v1 j = (selR ss (fun i => ss (400 + i)) jt) j) → (cn 0 - i).toNat < fu → JW x 0 0 12 [(0, .ref n0), (1, .int (iI 0)), (2, .int (iI 0)), (3, .int (iI i))] [] [(n0, oX12 th dp my sm st sz mo ms yb hpk pkr rt rk rx hsh si gt va (cn 0) wd wa re ua pkk pxx bp mk bi pl cd rn rch rtn rdp rki rea rby rsh), (my, aI x.g 2 cn), (sm, aI x.g 800 ss), (va, aI x.g 400 v1)] := by
      intro fu
      induction fu with
      | zero => intro i v1 _ hm; exact absurd hm (by omega)
      | succ fu ih =>
        intro i v1 ⟨hi1, hi2, hi3⟩ hm12
        have ih12 := ih
        clear ih
        refine j_iload_n jb dX12_valuesOf_12 3 rfl ?_
        refine j_aload_n jb dX12_valuesOf_13 0 rfl ?_
        refine j_get jb f_X12_92 dX12_valuesOf_14 0 rfl rfl ?_
        refine j_icmp_ge (tgt := 163) jb dX12_valuesOf_17 (by decide) (by omega) (by omega) (fun c_17 => ?_) (fun c_17 => ?_)
        · skip
          have hen : eqOn v1 (selR ss (fun i => ss (400 + i)) jt) 0 (cn 0) := fun j a b => hi3 j a (by omega)
          refine j_iload_n jb dX12_valuesOf_163 1 rfl ?_
          refine j_iconst jb dX12_valuesOf_164 ?_
          refine j_icmp_ne (tgt := 173) jb dX12_valuesOf_165 (by decide) (by decide) (by decide) (fun _ => ?_) (fun h => absurd h (by decide))
          refine j_iload_n jb dX12_valuesOf_173 1 rfl ?_
          refine j_iconst jb dX12_valuesOf_174 ?_
          refine j_icmp_ne (tgt := 182) jb dX12_valuesOf_175 (by decide) (by decide) (by decide) (fun _ => ?_) (fun h => absurd h (by decide))
          refine j_iload_n jb dX12_valuesOf_182 1 rfl ?_
          refine j_iconst jb dX12_valuesOf_183 ?_
          refine j_icmp_ne (tgt := 196) jb dX12_valuesOf_184 (by decide) (by decide) (by decide) (fun _ => ?_) (fun h => absurd h (by decide))
          refine j_iconst jb dX12_valuesOf_196 ?_
          refine j_istore_n (lv' := [(3, .int (iI 0)), (0, .ref n0), (1, .int (iI 0)), (2, .int (iI 0))]) jb dX12_valuesOf_197 rfl (by decide) rfl ?_
          refine j_aload_n jb dX12_valuesOf_198 1 rfl ?_
          refine j_iload_n jb dX12_valuesOf_199 0 rfl ?_
          refine j_if_eq (tgt := 212) jb dX12_valuesOf_200 (by decide) (by decide) (fun _ => ?_) (fun h => absurd h (by decide))
          refine j_aload_n jb dX12_valuesOf_212 1 rfl ?_
          refine j_get jb f_X12_13 dX12_valuesOf_213 0 rfl rfl ?_
          refine j_callV (wr := [(my, aI x.g 2 cn), (sm, aI x.g 800 ss)]) jb k_X12_takeOut i_X12_takeOut s_X12_takeOut l_X12_159 (C_X12_takeOut x.l x.g n0 my sm st yb pkr rt rk rx si gt va re ua mk rki rea rby th dp sz mo ms hpk hsh (cn 0) wd wa pkk pxx bp bi pl cd rn rch rtn rdp rsh dp v1 (by omega) (by omega) (fun j a b => by rw [hen j a b]; exact selR_in h0 h1 j a b)) 0 14 rfl rfl rfl [0, 3] [1, 2] (by decide) rfl rfl (by decide) (by decide) rfl rfl (Nat.le_of_ble_eq_true rfl) (by decide) dX12_valuesOf_216 (fun v w hp => ?_)
          obtain ⟨wa3, wd3, v3, rfl, rfl, h216⟩ := hp
          refine j_norm (lv' := [(3, .int (iI 0)), (0, .ref n0), (1, .int (iI 0)), (2, .int (iI 0))]) (st' := []) (ws' := [(n0, oX12 th dp my sm st sz mo ms yb hpk pkr rt rk rx hsh si gt va (cn 0) wd3 wa3 re ua pkk pxx bp mk bi pl cd rn rch rtn rdp rki rea rby rsh), (my, aI x.g 2 cn), (sm, aI x.g 800 ss), (va, aI x.g 400 v3)]) [0, 1, 2, 3] [2, 0, 1, 3] rfl rfl (by decide) rfl ?_
          refine j_norm (lv' := []) (st' := []) (ws' := [(n0, oX12 th dp my sm st sz mo ms yb hpk pkr rt rk rx hsh si gt va (cn 0) wd3 wa3 re ua pkk pxx bp mk bi pl cd rn rch rtn rdp rki rea rby rsh), (my, aI x.g 2 cn), (sm, aI x.g 800 ss), (va, aI x.g 400 v3)]) [] [0, 1, 2, 3] rfl rfl (by decide) rfl ?_
          exact j_vret jb jr dX12_valuesOf_219 ⟨_, _, _, rfl, rfl, (by rw [← hjt, hrb]; exact ⟨by rw [← orF_cg (cn 0).toNat (fun j a b => hen j a (by omega))]; exact h216.1, h216.2.1, h216.2.2.1, fun j a b => by rw [h216.2.2.2 j a b, hen j a b]; rfl⟩)⟩
        · skip
          refine j_aload_n jb dX12_valuesOf_20 0 rfl ?_
          refine j_get jb f_X12_20 dX12_valuesOf_21 0 rfl rfl ?_
          refine j_iload_n jb dX12_valuesOf_24 3 rfl ?_
          refine j_iald jb dX12_valuesOf_25 2 rfl (by omega) (by decide) ?_
          refine j_istore (lv' := [(4, .int (iI (ss i))), (0, .ref n0), (1, .int (iI 0)), (2, .int (iI 0)), (3, .int (iI i))]) jb dX12_valuesOf_26 (by decide) rfl ?_
          refine j_aload_n jb dX12_valuesOf_28 1 rfl ?_
          refine j_get jb f_X12_20 dX12_valuesOf_29 0 rfl rfl ?_
          refine j_sipush jb dX12_valuesOf_32 (by decide) ?_
          refine j_iload_n jb dX12_valuesOf_35 4 rfl ?_
          refine j_iadd jb dX12_valuesOf_36 ?_
          refine j_iald jb dX12_valuesOf_37 2 rfl (by omega) (by decide) ?_
          refine j_istore (lv' := [(5, .int (iI (ss (400 + i)))), (4, .int (iI (ss i))), (0, .ref n0), (1, .int (iI 0)), (2, .int (iI 0)), (3, .int (iI i))]) jb dX12_valuesOf_38 (by decide) rfl ?_
          refine j_iload_n jb dX12_valuesOf_40 3 rfl ?_
          refine j_iconst jb dX12_valuesOf_41 ?_
          refine j_icmp_ne (tgt := 50) jb dX12_valuesOf_42 (by decide) (by decide) (by decide) (fun _ => ?_) (fun h => absurd h (by decide))
          refine j_iload_n jb dX12_valuesOf_50 3 rfl ?_
          refine j_iconst jb dX12_valuesOf_51 ?_
          refine j_icmp_ne (tgt := 59) jb dX12_valuesOf_52 (by decide) (by decide) (by decide) (fun _ => ?_) (fun h => absurd h (by decide))
          refine j_iload_n jb dX12_valuesOf_59 3 rfl ?_
          refine j_iconst jb dX12_valuesOf_60 ?_
          refine j_icmp_ne (tgt := 73) jb dX12_valuesOf_61 (by decide) (by decide) (by decide) (fun _ => ?_) (fun h => absurd h (by decide))
          refine j_iconst jb dX12_valuesOf_73 ?_
          refine j_istore (lv' := [(6, .int (iI 0)), (5, .int (iI (ss (400 + i)))), (4, .int (iI (ss i))), (0, .ref n0), (1, .int (iI 0)), (2, .int (iI 0)), (3, .int (iI i))]) jb dX12_valuesOf_74 (by decide) rfl ?_
          refine j_iload_n jb dX12_valuesOf_76 4 rfl ?_
          refine j_iconst jb dX12_valuesOf_77 ?_
          refine j_icmp_ne (tgt := 89) jb dX12_valuesOf_78 (by decide) (by decide) (by decide) (fun _ => ?_) (fun h => absurd h (by decide))
          refine j_iconst jb dX12_valuesOf_89 ?_
          refine j_istore (lv' := [(7, .int (iI 0)), (6, .int (iI 0)), (5, .int (iI (ss (400 + i)))), (4, .int (iI (ss i))), (0, .ref n0), (1, .int (iI 0)), (2, .int (iI 0)), (3, .int (iI i))]) jb dX12_valuesOf_90 (by decide) rfl ?_
          refine j_aload_n jb dX12_valuesOf_92 4 rfl ?_
          refine j_get jb f_X12_47 dX12_valuesOf_93 0 rfl rfl ?_
          refine j_iload_n jb dX12_valuesOf_96 7 rfl ?_
          refine j_iload jb dX12_valuesOf_97 1 rfl ?_
          refine j_if_eq (tgt := 110) jb dX12_valuesOf_99 (by decide) (by decide) (fun _ => ?_) (fun h => absurd h (by decide))
          refine j_iload jb dX12_valuesOf_110 0 rfl ?_
          refine j_if_eq (tgt := 125) jb dX12_valuesOf_112 (by decide) (by decide) (fun _ => ?_) (fun h => absurd h (by decide))
          refine j_iload_n jb dX12_valuesOf_125 5 rfl ?_
          refine j_iconst jb dX12_valuesOf_126 ?_
          refine j_icmp_ne (tgt := 135) jb dX12_valuesOf_127 (by decide) (by decide) (by decide) (fun _ => ?_) (fun h => absurd h (by decide))
          refine j_iload_n jb dX12_valuesOf_135 5 rfl ?_
          refine j_iconst jb dX12_valuesOf_136 ?_
          refine j_icmp_ne (tgt := 145) jb dX12_valuesOf_137 (by decide) (by decide) (by decide) (fun _ => ?_) (fun h => absurd h (by decide))
          refine j_iload_n jb dX12_valuesOf_145 6 rfl ?_
          refine j_if_ne (tgt := 154) jb dX12_valuesOf_146 (by decide) (by decide) (fun h => absurd h (by decide)) (fun _ => ?_)
          refine j_iload jb dX12_valuesOf_149 3 rfl ?_
          refine j_goto (tgt := 156) jb dX12_valuesOf_151 (by decide) ?_
          refine j_iast (ws' := [(n0, oX12 th dp my sm st sz mo ms yb hpk pkr rt rk rx hsh si gt va (cn 0) wd wa re ua pkk pxx bp mk bi pl cd rn rch rtn rdp rki rea rby rsh), (my, aI x.g 2 cn), (sm, aI x.g 800 ss), (va, aI x.g 400 (zup v1 i (ss i)))]) jb dX12_valuesOf_156 3 rfl (by omega) (by decide) rfl ?_
          refine j_iinc (lv' := [(3, .int (iI (i + 1))), (7, .int (iI 0)), (6, .int (iI 0)), (5, .int (iI (ss (400 + i)))), (4, .int (iI (ss i))), (0, .ref n0), (1, .int (iI 0)), (2, .int (iI 0))]) jb dX12_valuesOf_157 7 rfl (by decide) rfl ?_
          refine j_goto (tgt := 12) jb dX12_valuesOf_160 (by decide) ?_
          refine j_norm (lv' := [(0, .ref n0), (1, .int (iI 0)), (2, .int (iI 0)), (3, .int (iI (i + 1)))]) (st' := []) (ws' := [(n0, oX12 th dp my sm st sz mo ms yb hpk pkr rt rk rx hsh si gt va (cn 0) wd wa re ua pkk pxx bp mk bi pl cd rn rch rtn rdp rki rea rby rsh), (my, aI x.g 2 cn), (sm, aI x.g 800 ss), (va, aI x.g 400 (zup v1 i (ss i)))]) [5, 6, 7, 0] [0, 1, 2, 3] rfl rfl (by decide) rfl ?_
          exact ih12 (i + 1) (zup v1 i (ss i)) ⟨by omega, by omega, fun j a b => by (by_cases e : j = i); { rw [e, zup_s, ejt]; rfl }; { rw [zup_n e]; exact hi3 j a (by omega) }⟩ (by omega)
    refine j_norm (lv' := [(0, .ref n0), (1, .int (iI 0)), (2, .int (iI 0)), (3, .int (iI 0))]) (st' := []) (ws' := [(n0, oX12 th dp my sm st sz mo ms yb hpk pkr rt rk rx hsh si gt va (cn 0) wd wa re ua pkk pxx bp mk bi pl cd rn rch rtn rdp rki rea rby rsh), (my, aI x.g 2 cn), (sm, aI x.g 800 ss), (va, aI x.g 400 val)]) [1, 2, 3, 0] [0, 1, 2, 3] rfl rfl (by decide) rfl ?_
    exact L12 _ 0 val ⟨by decide, by omega, fun j a b => by omega⟩ (Nat.lt_succ_self _)
  · skip
    obtain ⟨e1, e2⟩ := e
    subst e1; subst e2
    have ejt : jt = 1 := hjt.trans (by decide)
    have h1 : jt = 0 ∨ ∀ i, 0 ≤ i → i < cn 0 → -32768 ≤ ss (400 + i) ∧ ss (400 + i) < 32768 := by (rcases h1 with z | z; { left; rw [hjt]; exact absurd z (by decide) }; { exact Or.inr z })
    have hrb : rbJ dp jt = dp := by (rw [ejt]; rfl)
    refine j_aload_n jb dX12_valuesOf_0 0 rfl ?_
    refine j_aload_n jb dX12_valuesOf_1 0 rfl ?_
    refine j_get jb f_X12_16 dX12_valuesOf_2 0 rfl rfl ?_
    refine j_iconst jb dX12_valuesOf_5 ?_
    refine j_iald jb dX12_valuesOf_6 1 rfl (by omega) (by decide) ?_
    refine j_put (ws' := [(n0, oX12 th dp my sm st sz mo ms yb hpk pkr rt rk rx hsh si gt va (cn 0) wd wa re ua pkk pxx bp mk bi pl cd rn rch rtn rdp rki rea rby rsh), (my, aI x.g 2 cn), (sm, aI x.g 800 ss), (va, aI x.g 400 val)]) jb f_X12_92 w_X12_18 rfl dX12_valuesOf_7 0 rfl rfl rfl (Nat.le_of_ble_eq_true rfl) rfl ?_
    refine j_iconst jb dX12_valuesOf_10 ?_
    refine j_istore_n (lv' := [(3, .int (iI 0)), (0, .ref n0), (1, .int (iI 0)), (2, .int (iI 1))]) jb dX12_valuesOf_11 rfl (by decide) rfl ?_
    have L12 : ∀ (fu : Nat) (i : Int) (v1 : Int → Int), (0 ≤ i ∧ i ≤ cn 0 ∧ ∀ j, 0 ≤ j → j < i → v1 j = (selR ss (fun i => ss (400 + i)) jt) j) → (cn 0 - i).toNat < fu → JW x 0 0 12 [(0, .ref n0), (1, .int (iI 0)), (2, .int (iI 1)), (3, .int (iI i))] [] [(n0, oX12 th dp my sm st sz mo ms yb hpk pkr rt rk rx hsh si gt va (cn 0) wd wa re ua pkk pxx bp mk bi pl cd rn rch rtn rdp rki rea rby rsh), (my, aI x.g 2 cn), (sm, aI x.g 800 ss), (va, aI x.g 400 v1)] := by
      intro fu
      induction fu with
      | zero => intro i v1 _ hm; exact absurd hm (by omega)
      | succ fu ih =>
        intro i v1 ⟨hi1, hi2, hi3⟩ hm12
        have ih12 := ih
        clear ih
        refine j_iload_n jb dX12_valuesOf_12 3 rfl ?_
        refine j_aload_n jb dX12_valuesOf_13 0 rfl ?_
        refine j_get jb f_X12_92 dX12_valuesOf_14 0 rfl rfl ?_
        refine j_icmp_ge (tgt := 163) jb dX12_valuesOf_17 (by decide) (by omega) (by omega) (fun c_17 => ?_) (fun c_17 => ?_)
        · skip
          have hen : eqOn v1 (selR ss (fun i => ss (400 + i)) jt) 0 (cn 0) := fun j a b => hi3 j a (by omega)
          refine j_iload_n jb dX12_valuesOf_163 1 rfl ?_
          refine j_iconst jb dX12_valuesOf_164 ?_
          refine j_icmp_ne (tgt := 173) jb dX12_valuesOf_165 (by decide) (by decide) (by decide) (fun _ => ?_) (fun h => absurd h (by decide))
          refine j_iload_n jb dX12_valuesOf_173 1 rfl ?_
          refine j_iconst jb dX12_valuesOf_174 ?_
          refine j_icmp_ne (tgt := 182) jb dX12_valuesOf_175 (by decide) (by decide) (by decide) (fun _ => ?_) (fun h => absurd h (by decide))
          refine j_iload_n jb dX12_valuesOf_182 1 rfl ?_
          refine j_iconst jb dX12_valuesOf_183 ?_
          refine j_icmp_ne (tgt := 196) jb dX12_valuesOf_184 (by decide) (by decide) (by decide) (fun _ => ?_) (fun h => absurd h (by decide))
          refine j_iconst jb dX12_valuesOf_196 ?_
          refine j_istore_n (lv' := [(3, .int (iI 0)), (0, .ref n0), (1, .int (iI 0)), (2, .int (iI 1))]) jb dX12_valuesOf_197 rfl (by decide) rfl ?_
          refine j_aload_n jb dX12_valuesOf_198 1 rfl ?_
          refine j_iload_n jb dX12_valuesOf_199 0 rfl ?_
          refine j_if_eq (tgt := 212) jb dX12_valuesOf_200 (by decide) (by decide) (fun _ => ?_) (fun h => absurd h (by decide))
          refine j_aload_n jb dX12_valuesOf_212 1 rfl ?_
          refine j_get jb f_X12_13 dX12_valuesOf_213 0 rfl rfl ?_
          refine j_callV (wr := [(my, aI x.g 2 cn), (sm, aI x.g 800 ss)]) jb k_X12_takeOut i_X12_takeOut s_X12_takeOut l_X12_159 (C_X12_takeOut x.l x.g n0 my sm st yb pkr rt rk rx si gt va re ua mk rki rea rby th dp sz mo ms hpk hsh (cn 0) wd wa pkk pxx bp bi pl cd rn rch rtn rdp rsh dp v1 (by omega) (by omega) (fun j a b => by rw [hen j a b]; exact selR_in h0 h1 j a b)) 0 14 rfl rfl rfl [0, 3] [1, 2] (by decide) rfl rfl (by decide) (by decide) rfl rfl (Nat.le_of_ble_eq_true rfl) (by decide) dX12_valuesOf_216 (fun v w hp => ?_)
          obtain ⟨wa3, wd3, v3, rfl, rfl, h216⟩ := hp
          refine j_norm (lv' := [(3, .int (iI 0)), (0, .ref n0), (1, .int (iI 0)), (2, .int (iI 1))]) (st' := []) (ws' := [(n0, oX12 th dp my sm st sz mo ms yb hpk pkr rt rk rx hsh si gt va (cn 0) wd3 wa3 re ua pkk pxx bp mk bi pl cd rn rch rtn rdp rki rea rby rsh), (my, aI x.g 2 cn), (sm, aI x.g 800 ss), (va, aI x.g 400 v3)]) [0, 1, 2, 3] [2, 0, 1, 3] rfl rfl (by decide) rfl ?_
          refine j_norm (lv' := []) (st' := []) (ws' := [(n0, oX12 th dp my sm st sz mo ms yb hpk pkr rt rk rx hsh si gt va (cn 0) wd3 wa3 re ua pkk pxx bp mk bi pl cd rn rch rtn rdp rki rea rby rsh), (my, aI x.g 2 cn), (sm, aI x.g 800 ss), (va, aI x.g 400 v3)]) [] [0, 1, 2, 3] rfl rfl (by decide) rfl ?_
          exact j_vret jb jr dX12_valuesOf_219 ⟨_, _, _, rfl, rfl, (by rw [← hjt, hrb]; exact ⟨by rw [← orF_cg (cn 0).toNat (fun j a b => hen j a (by omega))]; exact h216.1, h216.2.1, h216.2.2.1, fun j a b => by rw [h216.2.2.2 j a b, hen j a b]; rfl⟩)⟩
        · skip
          refine j_aload_n jb dX12_valuesOf_20 0 rfl ?_
          refine j_get jb f_X12_20 dX12_valuesOf_21 0 rfl rfl ?_
          refine j_iload_n jb dX12_valuesOf_24 3 rfl ?_
          refine j_iald jb dX12_valuesOf_25 2 rfl (by omega) (by decide) ?_
          refine j_istore (lv' := [(4, .int (iI (ss i))), (0, .ref n0), (1, .int (iI 0)), (2, .int (iI 1)), (3, .int (iI i))]) jb dX12_valuesOf_26 (by decide) rfl ?_
          refine j_aload_n jb dX12_valuesOf_28 1 rfl ?_
          refine j_get jb f_X12_20 dX12_valuesOf_29 0 rfl rfl ?_
          refine j_sipush jb dX12_valuesOf_32 (by decide) ?_
          refine j_iload_n jb dX12_valuesOf_35 4 rfl ?_
          refine j_iadd jb dX12_valuesOf_36 ?_
          refine j_iald jb dX12_valuesOf_37 2 rfl (by omega) (by decide) ?_
          refine j_istore (lv' := [(5, .int (iI (ss (400 + i)))), (4, .int (iI (ss i))), (0, .ref n0), (1, .int (iI 0)), (2, .int (iI 1)), (3, .int (iI i))]) jb dX12_valuesOf_38 (by decide) rfl ?_
          refine j_iload_n jb dX12_valuesOf_40 3 rfl ?_
          refine j_iconst jb dX12_valuesOf_41 ?_
          refine j_icmp_ne (tgt := 50) jb dX12_valuesOf_42 (by decide) (by decide) (by decide) (fun _ => ?_) (fun h => absurd h (by decide))
          refine j_iload_n jb dX12_valuesOf_50 3 rfl ?_
          refine j_iconst jb dX12_valuesOf_51 ?_
          refine j_icmp_ne (tgt := 59) jb dX12_valuesOf_52 (by decide) (by decide) (by decide) (fun _ => ?_) (fun h => absurd h (by decide))
          refine j_iload_n jb dX12_valuesOf_59 3 rfl ?_
          refine j_iconst jb dX12_valuesOf_60 ?_
          refine j_icmp_ne (tgt := 73) jb dX12_valuesOf_61 (by decide) (by decide) (by decide) (fun _ => ?_) (fun h => absurd h (by decide))
          refine j_iconst jb dX12_valuesOf_73 ?_
          refine j_istore (lv' := [(6, .int (iI 0)), (5, .int (iI (ss (400 + i)))), (4, .int (iI (ss i))), (0, .ref n0), (1, .int (iI 0)), (2, .int (iI 1)), (3, .int (iI i))]) jb dX12_valuesOf_74 (by decide) rfl ?_
          refine j_iload_n jb dX12_valuesOf_76 4 rfl ?_
          refine j_iconst jb dX12_valuesOf_77 ?_
          refine j_icmp_ne (tgt := 89) jb dX12_valuesOf_78 (by decide) (by decide) (by decide) (fun _ => ?_) (fun h => absurd h (by decide))
          refine j_iconst jb dX12_valuesOf_89 ?_
          refine j_istore (lv' := [(7, .int (iI 0)), (6, .int (iI 0)), (5, .int (iI (ss (400 + i)))), (4, .int (iI (ss i))), (0, .ref n0), (1, .int (iI 0)), (2, .int (iI 1)), (3, .int (iI i))]) jb dX12_valuesOf_90 (by decide) rfl ?_
          refine j_aload_n jb dX12_valuesOf_92 4 rfl ?_
          refine j_get jb f_X12_47 dX12_valuesOf_93 0 rfl rfl ?_
          refine j_iload_n jb dX12_valuesOf_96 7 rfl ?_
          refine j_iload jb dX12_valuesOf_97 1 rfl ?_
          refine j_if_eq (tgt := 110) jb dX12_valuesOf_99 (by decide) (by decide) (fun _ => ?_) (fun h => absurd h (by decide))
          refine j_iload jb dX12_valuesOf_110 0 rfl ?_
          refine j_if_eq (tgt := 125) jb dX12_valuesOf_112 (by decide) (by decide) (fun _ => ?_) (fun h => absurd h (by decide))
          refine j_iload_n jb dX12_valuesOf_125 5 rfl ?_
          refine j_iconst jb dX12_valuesOf_126 ?_
          refine j_icmp_ne (tgt := 135) jb dX12_valuesOf_127 (by decide) (by decide) (by decide) (fun _ => ?_) (fun h => absurd h (by decide))
          refine j_iload_n jb dX12_valuesOf_135 5 rfl ?_
          refine j_iconst jb dX12_valuesOf_136 ?_
          refine j_icmp_ne (tgt := 145) jb dX12_valuesOf_137 (by decide) (by decide) (by decide) (fun _ => ?_) (fun h => absurd h (by decide))
          refine j_iload_n jb dX12_valuesOf_145 6 rfl ?_
          refine j_if_ne (tgt := 154) jb dX12_valuesOf_146 (by decide) (by decide) (fun _ => ?_) (fun h => absurd h (by decide))
          refine j_iload jb dX12_valuesOf_154 2 rfl ?_
          refine j_iast (ws' := [(n0, oX12 th dp my sm st sz mo ms yb hpk pkr rt rk rx hsh si gt va (cn 0) wd wa re ua pkk pxx bp mk bi pl cd rn rch rtn rdp rki rea rby rsh), (my, aI x.g 2 cn), (sm, aI x.g 800 ss), (va, aI x.g 400 (zup v1 i (ss (400 + i))))]) jb dX12_valuesOf_156 3 rfl (by omega) (by decide) rfl ?_
          refine j_iinc (lv' := [(3, .int (iI (i + 1))), (7, .int (iI 0)), (6, .int (iI 0)), (5, .int (iI (ss (400 + i)))), (4, .int (iI (ss i))), (0, .ref n0), (1, .int (iI 0)), (2, .int (iI 1))]) jb dX12_valuesOf_157 7 rfl (by decide) rfl ?_
          refine j_goto (tgt := 12) jb dX12_valuesOf_160 (by decide) ?_
          refine j_norm (lv' := [(0, .ref n0), (1, .int (iI 0)), (2, .int (iI 1)), (3, .int (iI (i + 1)))]) (st' := []) (ws' := [(n0, oX12 th dp my sm st sz mo ms yb hpk pkr rt rk rx hsh si gt va (cn 0) wd wa re ua pkk pxx bp mk bi pl cd rn rch rtn rdp rki rea rby rsh), (my, aI x.g 2 cn), (sm, aI x.g 800 ss), (va, aI x.g 400 (zup v1 i (ss (400 + i))))]) [5, 6, 7, 0] [0, 1, 2, 3] rfl rfl (by decide) rfl ?_
          exact ih12 (i + 1) (zup v1 i (ss (400 + i))) ⟨by omega, by omega, fun j a b => by (by_cases e : j = i); { rw [e, zup_s, ejt]; rfl }; { rw [zup_n e]; exact hi3 j a (by omega) }⟩ (by omega)
    refine j_norm (lv' := [(0, .ref n0), (1, .int (iI 0)), (2, .int (iI 1)), (3, .int (iI 0))]) (st' := []) (ws' := [(n0, oX12 th dp my sm st sz mo ms yb hpk pkr rt rk rx hsh si gt va (cn 0) wd wa re ua pkk pxx bp mk bi pl cd rn rch rtn rdp rki rea rby rsh), (my, aI x.g 2 cn), (sm, aI x.g 800 ss), (va, aI x.g 400 val)]) [1, 2, 3, 0] [0, 1, 2, 3] rfl rfl (by decide) rfl ?_
    exact L12 _ 0 val ⟨by decide, by omega, fun j a b => by omega⟩ (Nat.lt_succ_self _)
  · skip
    obtain ⟨e1, e2⟩ := e
    subst e1; subst e2
    have ejt : jt = 0 := hjt.trans (by decide)
    have h1 : jt = 0 ∨ ∀ i, 0 ≤ i → i < cn 0 → -32768 ≤ ss (400 + i) ∧ ss (400 + i) < 32768 := by (rcases h1 with z | z; { left; rw [hjt]; exact absurd z (by decide) }; { exact Or.inr z })
    have hrb : rbJ dp jt = dp := by (rw [ejt]; rfl)
    refine j_aload_n jb dX12_valuesOf_0 0 rfl ?_
    refine j_aload_n jb dX12_valuesOf_1 0 rfl ?_
    refine j_get jb f_X12_16 dX12_valuesOf_2 0 rfl rfl ?_
    refine j_iconst jb dX12_valuesOf_5 ?_
    refine j_iald jb dX12_valuesOf_6 1 rfl (by omega) (by decide) ?_
    refine j_put (ws' := [(n0, oX12 th dp my sm st sz mo ms yb hpk pkr rt rk rx hsh si gt va (cn 0) wd wa re ua pkk pxx bp mk bi pl cd rn rch rtn rdp rki rea rby rsh), (my, aI x.g 2 cn), (sm, aI x.g 800 ss), (va, aI x.g 400 val)]) jb f_X12_92 w_X12_18 rfl dX12_valuesOf_7 0 rfl rfl rfl (Nat.le_of_ble_eq_true rfl) rfl ?_
    refine j_iconst jb dX12_valuesOf_10 ?_
    refine j_istore_n (lv' := [(3, .int (iI 0)), (0, .ref n0), (1, .int (iI 1)), (2, .int (iI 0))]) jb dX12_valuesOf_11 rfl (by decide) rfl ?_
    have L12 : ∀ (fu : Nat) (i : Int) (v1 : Int → Int), (0 ≤ i ∧ i ≤ cn 0 ∧ ∀ j, 0 ≤ j → j < i → v1 j = (selR ss (fun i => ss (400 + i)) jt) j) → (cn 0 - i).toNat < fu → JW x 0 0 12 [(0, .ref n0), (1, .int (iI 1)), (2, .int (iI 0)), (3, .int (iI i))] [] [(n0, oX12 th dp my sm st sz mo ms yb hpk pkr rt rk rx hsh si gt va (cn 0) wd wa re ua pkk pxx bp mk bi pl cd rn rch rtn rdp rki rea rby rsh), (my, aI x.g 2 cn), (sm, aI x.g 800 ss), (va, aI x.g 400 v1)] := by
      intro fu
      induction fu with
      | zero => intro i v1 _ hm; exact absurd hm (by omega)
      | succ fu ih =>
        intro i v1 ⟨hi1, hi2, hi3⟩ hm12
        have ih12 := ih
        clear ih
        refine j_iload_n jb dX12_valuesOf_12 3 rfl ?_
        refine j_aload_n jb dX12_valuesOf_13 0 rfl ?_
        refine j_get jb f_X12_92 dX12_valuesOf_14 0 rfl rfl ?_
        refine j_icmp_ge (tgt := 163) jb dX12_valuesOf_17 (by decide) (by omega) (by omega) (fun c_17 => ?_) (fun c_17 => ?_)
        · skip
          have hen : eqOn v1 (selR ss (fun i => ss (400 + i)) jt) 0 (cn 0) := fun j a b => hi3 j a (by omega)
          refine j_iload_n jb dX12_valuesOf_163 1 rfl ?_
          refine j_iconst jb dX12_valuesOf_164 ?_
          refine j_icmp_ne (tgt := 173) jb dX12_valuesOf_165 (by decide) (by decide) (by decide) (fun h => absurd h (by decide)) (fun _ => ?_)
          refine j_iload_n jb dX12_valuesOf_168 2 rfl ?_
          refine j_iconst jb dX12_valuesOf_169 ?_
          refine j_icmp_eq (tgt := 192) jb dX12_valuesOf_170 (by decide) (by decide) (by decide) (fun h => absurd h (by decide)) (fun _ => ?_)
          refine j_iload_n jb dX12_valuesOf_173 1 rfl ?_
          refine j_iconst jb dX12_valuesOf_174 ?_
          refine j_icmp_ne (tgt := 182) jb dX12_valuesOf_175 (by decide) (by decide) (by decide) (fun _ => ?_) (fun h => absurd h (by decide))
          refine j_iload_n jb dX12_valuesOf_182 1 rfl ?_
          refine j_iconst jb dX12_valuesOf_183 ?_
          refine j_icmp_ne (tgt := 196) jb dX12_valuesOf_184 (by decide) (by decide) (by decide) (fun _ => ?_) (fun h => absurd h (by decide))
          refine j_iconst jb dX12_valuesOf_196 ?_
          refine j_istore_n (lv' := [(3, .int (iI 0)), (0, .ref n0), (1, .int (iI 1)), (2, .int (iI 0))]) jb dX12_valuesOf_197 rfl (by decide) rfl ?_
          refine j_aload_n jb dX12_valuesOf_198 1 rfl ?_
          refine j_iload_n jb dX12_valuesOf_199 0 rfl ?_
          refine j_if_eq (tgt := 212) jb dX12_valuesOf_200 (by decide) (by decide) (fun _ => ?_) (fun h => absurd h (by decide))
          refine j_aload_n jb dX12_valuesOf_212 1 rfl ?_
          refine j_get jb f_X12_13 dX12_valuesOf_213 0 rfl rfl ?_
          refine j_callV (wr := [(my, aI x.g 2 cn), (sm, aI x.g 800 ss)]) jb k_X12_takeOut i_X12_takeOut s_X12_takeOut l_X12_159 (C_X12_takeOut x.l x.g n0 my sm st yb pkr rt rk rx si gt va re ua mk rki rea rby th dp sz mo ms hpk hsh (cn 0) wd wa pkk pxx bp bi pl cd rn rch rtn rdp rsh dp v1 (by omega) (by omega) (fun j a b => by rw [hen j a b]; exact selR_in h0 h1 j a b)) 0 14 rfl rfl rfl [0, 3] [1, 2] (by decide) rfl rfl (by decide) (by decide) rfl rfl (Nat.le_of_ble_eq_true rfl) (by decide) dX12_valuesOf_216 (fun v w hp => ?_)
          obtain ⟨wa3, wd3, v3, rfl, rfl, h216⟩ := hp
          refine j_norm (lv' := [(3, .int (iI 0)), (0, .ref n0), (1, .int (iI 1)), (2, .int (iI 0))]) (st' := []) (ws' := [(n0, oX12 th dp my sm st sz mo ms yb hpk pkr rt rk rx hsh si gt va (cn 0) wd3 wa3 re ua pkk pxx bp mk bi pl cd rn rch rtn rdp rki rea rby rsh), (my, aI x.g 2 cn), (sm, aI x.g 800 ss), (va, aI x.g 400 v3)]) [0, 1, 2, 3] [2, 0, 1, 3] rfl rfl (by decide) rfl ?_
          refine j_norm (lv' := []) (st' := []) (ws' := [(n0, oX12 th dp my sm st sz mo ms yb hpk pkr rt rk rx hsh si gt va (cn 0) wd3 wa3 re ua pkk pxx bp mk bi pl cd rn rch rtn rdp rki rea rby rsh), (my, aI x.g 2 cn), (sm, aI x.g 800 ss), (va, aI x.g 400 v3)]) [] [0, 1, 2, 3] rfl rfl (by decide) rfl ?_
          exact j_vret jb jr dX12_valuesOf_219 ⟨_, _, _, rfl, rfl, (by rw [← hjt, hrb]; exact ⟨by rw [← orF_cg (cn 0).toNat (fun j a b => hen j a (by omega))]; exact h216.1, h216.2.1, h216.2.2.1, fun j a b => by rw [h216.2.2.2 j a b, hen j a b]; rfl⟩)⟩
        · skip
          refine j_aload_n jb dX12_valuesOf_20 0 rfl ?_
          refine j_get jb f_X12_20 dX12_valuesOf_21 0 rfl rfl ?_
          refine j_iload_n jb dX12_valuesOf_24 3 rfl ?_
          refine j_iald jb dX12_valuesOf_25 2 rfl (by omega) (by decide) ?_
          refine j_istore (lv' := [(4, .int (iI (ss i))), (0, .ref n0), (1, .int (iI 1)), (2, .int (iI 0)), (3, .int (iI i))]) jb dX12_valuesOf_26 (by decide) rfl ?_
          refine j_aload_n jb dX12_valuesOf_28 1 rfl ?_
          refine j_get jb f_X12_20 dX12_valuesOf_29 0 rfl rfl ?_
          refine j_sipush jb dX12_valuesOf_32 (by decide) ?_
          refine j_iload_n jb dX12_valuesOf_35 4 rfl ?_
          refine j_iadd jb dX12_valuesOf_36 ?_
          refine j_iald jb dX12_valuesOf_37 2 rfl (by omega) (by decide) ?_
          refine j_istore (lv' := [(5, .int (iI (ss (400 + i)))), (4, .int (iI (ss i))), (0, .ref n0), (1, .int (iI 1)), (2, .int (iI 0)), (3, .int (iI i))]) jb dX12_valuesOf_38 (by decide) rfl ?_
          refine j_iload_n jb dX12_valuesOf_40 3 rfl ?_
          refine j_iconst jb dX12_valuesOf_41 ?_
          refine j_icmp_ne (tgt := 50) jb dX12_valuesOf_42 (by decide) (by decide) (by decide) (fun h => absurd h (by decide)) (fun _ => ?_)
          refine j_iload_n jb dX12_valuesOf_45 4 rfl ?_
          refine j_iconst jb dX12_valuesOf_46 ?_
          refine j_icmp_eq (tgt := 69) jb dX12_valuesOf_47 (by decide) (by decide) (by decide) (fun h => absurd h (by decide)) (fun _ => ?_)
          refine j_iload_n jb dX12_valuesOf_50 3 rfl ?_
          refine j_iconst jb dX12_valuesOf_51 ?_
          refine j_icmp_ne (tgt := 59) jb dX12_valuesOf_52 (by decide) (by decide) (by decide) (fun _ => ?_) (fun h => absurd h (by decide))
          refine j_iload_n jb dX12_valuesOf_59 3 rfl ?_
          refine j_iconst jb dX12_valuesOf_60 ?_
          refine j_icmp_ne (tgt := 73) jb dX12_valuesOf_61 (by decide) (by decide) (by decide) (fun _ => ?_) (fun h => absurd h (by decide))
          refine j_iconst jb dX12_valuesOf_73 ?_
          refine j_istore (lv' := [(6, .int (iI 0)), (5, .int (iI (ss (400 + i)))), (4, .int (iI (ss i))), (0, .ref n0), (1, .int (iI 1)), (2, .int (iI 0)), (3, .int (iI i))]) jb dX12_valuesOf_74 (by decide) rfl ?_
          refine j_iload_n jb dX12_valuesOf_76 4 rfl ?_
          refine j_iconst jb dX12_valuesOf_77 ?_
          refine j_icmp_ne (tgt := 89) jb dX12_valuesOf_78 (by decide) (by decide) (by decide) (fun _ => ?_) (fun h => absurd h (by decide))
          refine j_iconst jb dX12_valuesOf_89 ?_
          refine j_istore (lv' := [(7, .int (iI 0)), (6, .int (iI 0)), (5, .int (iI (ss (400 + i)))), (4, .int (iI (ss i))), (0, .ref n0), (1, .int (iI 1)), (2, .int (iI 0)), (3, .int (iI i))]) jb dX12_valuesOf_90 (by decide) rfl ?_
          refine j_aload_n jb dX12_valuesOf_92 4 rfl ?_
          refine j_get jb f_X12_47 dX12_valuesOf_93 0 rfl rfl ?_
          refine j_iload_n jb dX12_valuesOf_96 7 rfl ?_
          refine j_iload jb dX12_valuesOf_97 1 rfl ?_
          refine j_if_eq (tgt := 110) jb dX12_valuesOf_99 (by decide) (by decide) (fun _ => ?_) (fun h => absurd h (by decide))
          refine j_iload jb dX12_valuesOf_110 0 rfl ?_
          refine j_if_eq (tgt := 125) jb dX12_valuesOf_112 (by decide) (by decide) (fun _ => ?_) (fun h => absurd h (by decide))
          refine j_iload_n jb dX12_valuesOf_125 5 rfl ?_
          refine j_iconst jb dX12_valuesOf_126 ?_
          refine j_icmp_ne (tgt := 135) jb dX12_valuesOf_127 (by decide) (by decide) (by decide) (fun _ => ?_) (fun h => absurd h (by decide))
          refine j_iload_n jb dX12_valuesOf_135 5 rfl ?_
          refine j_iconst jb dX12_valuesOf_136 ?_
          refine j_icmp_ne (tgt := 145) jb dX12_valuesOf_137 (by decide) (by decide) (by decide) (fun h => absurd h (by decide)) (fun _ => ?_)
          refine j_iload jb dX12_valuesOf_140 3 rfl ?_
          refine j_goto (tgt := 156) jb dX12_valuesOf_142 (by decide) ?_
          refine j_iast (ws' := [(n0, oX12 th dp my sm st sz mo ms yb hpk pkr rt rk rx hsh si gt va (cn 0) wd wa re ua pkk pxx bp mk bi pl cd rn rch rtn rdp rki rea rby rsh), (my, aI x.g 2 cn), (sm, aI x.g 800 ss), (va, aI x.g 400 (zup v1 i (ss i)))]) jb dX12_valuesOf_156 3 rfl (by omega) (by decide) rfl ?_
          refine j_iinc (lv' := [(3, .int (iI (i + 1))), (7, .int (iI 0)), (6, .int (iI 0)), (5, .int (iI (ss (400 + i)))), (4, .int (iI (ss i))), (0, .ref n0), (1, .int (iI 1)), (2, .int (iI 0))]) jb dX12_valuesOf_157 7 rfl (by decide) rfl ?_
          refine j_goto (tgt := 12) jb dX12_valuesOf_160 (by decide) ?_
          refine j_norm (lv' := [(0, .ref n0), (1, .int (iI 1)), (2, .int (iI 0)), (3, .int (iI (i + 1)))]) (st' := []) (ws' := [(n0, oX12 th dp my sm st sz mo ms yb hpk pkr rt rk rx hsh si gt va (cn 0) wd wa re ua pkk pxx bp mk bi pl cd rn rch rtn rdp rki rea rby rsh), (my, aI x.g 2 cn), (sm, aI x.g 800 ss), (va, aI x.g 400 (zup v1 i (ss i)))]) [5, 6, 7, 0] [0, 1, 2, 3] rfl rfl (by decide) rfl ?_
          exact ih12 (i + 1) (zup v1 i (ss i)) ⟨by omega, by omega, fun j a b => by (by_cases e : j = i); { rw [e, zup_s, ejt]; rfl }; { rw [zup_n e]; exact hi3 j a (by omega) }⟩ (by omega)
    refine j_norm (lv' := [(0, .ref n0), (1, .int (iI 1)), (2, .int (iI 0)), (3, .int (iI 0))]) (st' := []) (ws' := [(n0, oX12 th dp my sm st sz mo ms yb hpk pkr rt rk rx hsh si gt va (cn 0) wd wa re ua pkk pxx bp mk bi pl cd rn rch rtn rdp rki rea rby rsh), (my, aI x.g 2 cn), (sm, aI x.g 800 ss), (va, aI x.g 400 val)]) [1, 2, 3, 0] [0, 1, 2, 3] rfl rfl (by decide) rfl ?_
    exact L12 _ 0 val ⟨by decide, by omega, fun j a b => by omega⟩ (Nat.lt_succ_self _)
  · skip
    obtain ⟨e1, e2⟩ := e
    subst e1; subst e2
    have ejt : jt = 2 := hjt.trans (by decide)
    have h1 : jt = 0 ∨ ∀ i, 0 ≤ i → i < cn 0 → -32768 ≤ ss (400 + i) ∧ ss (400 + i) < 32768 := by (rcases h1 with z | z; { left; rw [hjt]; exact absurd z (by decide) }; { exact Or.inr z })
    have hrb : rbJ dp jt = dp + 1 := by (rw [ejt]; rfl)
    refine j_aload_n jb dX12_valuesOf_0 0 rfl ?_
    refine j_aload_n jb dX12_valuesOf_1 0 rfl ?_
    refine j_get jb f_X12_16 dX12_valuesOf_2 0 rfl rfl ?_
    refine j_iconst jb dX12_valuesOf_5 ?_
    refine j_iald jb dX12_valuesOf_6 1 rfl (by omega) (by decide) ?_
    refine j_put (ws' := [(n0, oX12 th dp my sm st sz mo ms yb hpk pkr rt rk rx hsh si gt va (cn 0) wd wa re ua pkk pxx bp mk bi pl cd rn rch rtn rdp rki rea rby rsh), (my, aI x.g 2 cn), (sm, aI x.g 800 ss), (va, aI x.g 400 val)]) jb f_X12_92 w_X12_18 rfl dX12_valuesOf_7 0 rfl rfl rfl (Nat.le_of_ble_eq_true rfl) rfl ?_
    refine j_iconst jb dX12_valuesOf_10 ?_
    refine j_istore_n (lv' := [(3, .int (iI 0)), (0, .ref n0), (1, .int (iI 1)), (2, .int (iI 1))]) jb dX12_valuesOf_11 rfl (by decide) rfl ?_
    have L12 : ∀ (fu : Nat) (i : Int) (v1 : Int → Int), (0 ≤ i ∧ i ≤ cn 0 ∧ ∀ j, 0 ≤ j → j < i → v1 j = (selR ss (fun i => ss (400 + i)) jt) j) → (cn 0 - i).toNat < fu → JW x 0 0 12 [(0, .ref n0), (1, .int (iI 1)), (2, .int (iI 1)), (3, .int (iI i))] [] [(n0, oX12 th dp my sm st sz mo ms yb hpk pkr rt rk rx hsh si gt va (cn 0) wd wa re ua pkk pxx bp mk bi pl cd rn rch rtn rdp rki rea rby rsh), (my, aI x.g 2 cn), (sm, aI x.g 800 ss), (va, aI x.g 400 v1)] := by
      intro fu
      induction fu with
      | zero => intro i v1 _ hm; exact absurd hm (by omega)
      | succ fu ih =>
        intro i v1 ⟨hi1, hi2, hi3⟩ hm12
        have ih12 := ih
        clear ih
        refine j_iload_n jb dX12_valuesOf_12 3 rfl ?_
        refine j_aload_n jb dX12_valuesOf_13 0 rfl ?_
        refine j_get jb f_X12_92 dX12_valuesOf_14 0 rfl rfl ?_
        refine j_icmp_ge (tgt := 163) jb dX12_valuesOf_17 (by decide) (by omega) (by omega) (fun c_17 => ?_) (fun c_17 => ?_)
        · skip
          have hen : eqOn v1 (selR ss (fun i => ss (400 + i)) jt) 0 (cn 0) := fun j a b => hi3 j a (by omega)
          refine j_iload_n jb dX12_valuesOf_163 1 rfl ?_
          refine j_iconst jb dX12_valuesOf_164 ?_
          refine j_icmp_ne (tgt := 173) jb dX12_valuesOf_165 (by decide) (by decide) (by decide) (fun h => absurd h (by decide)) (fun _ => ?_)
          refine j_iload_n jb dX12_valuesOf_168 2 rfl ?_
          refine j_iconst jb dX12_valuesOf_169 ?_
          refine j_icmp_eq (tgt := 192) jb dX12_valuesOf_170 (by decide) (by decide) (by decide) (fun _ => ?_) (fun h => absurd h (by decide))
          refine j_iconst jb dX12_valuesOf_192 ?_
          refine j_goto (tgt := 197) jb dX12_valuesOf_193 (by decide) ?_
          refine j_istore_n (lv' := [(3, .int (iI 1)), (0, .ref n0), (1, .int (iI 1)), (2, .int (iI 1))]) jb dX12_valuesOf_197 rfl (by decide) rfl ?_
          refine j_aload_n jb dX12_valuesOf_198 1 rfl ?_
          refine j_iload_n jb dX12_valuesOf_199 0 rfl ?_
          refine j_if_eq (tgt := 212) jb dX12_valuesOf_200 (by decide) (by decide) (fun h => absurd h (by decide)) (fun _ => ?_)
          refine j_aload_n jb dX12_valuesOf_203 1 rfl ?_
          refine j_get jb f_X12_13 dX12_valuesOf_204 0 rfl rfl ?_
          refine j_iconst jb dX12_valuesOf_207 ?_
          refine j_iadd jb dX12_valuesOf_208 ?_
          refine j_goto (tgt := 216) jb dX12_valuesOf_209 (by decide) ?_
          refine j_callV (wr := [(my, aI x.g 2 cn), (sm, aI x.g 800 ss)]) jb k_X12_takeOut i_X12_takeOut s_X12_takeOut l_X12_159 (C_X12_takeOut x.l x.g n0 my sm st yb pkr rt rk rx si gt va re ua mk rki rea rby th dp sz mo ms hpk hsh (cn 0) wd wa pkk pxx bp bi pl cd rn rch rtn rdp rsh (dp + 1) v1 (by omega) (by omega) (fun j a b => by rw [hen j a b]; exact selR_in h0 h1 j a b)) 0 14 rfl rfl rfl [0, 3] [1, 2] (by decide) rfl rfl (by decide) (by decide) rfl rfl (Nat.le_of_ble_eq_true rfl) (by decide) dX12_valuesOf_216 (fun v w hp => ?_)
          obtain ⟨wa3, wd3, v3, rfl, rfl, h216⟩ := hp
          refine j_norm (lv' := [(3, .int (iI 1)), (0, .ref n0), (1, .int (iI 1)), (2, .int (iI 1))]) (st' := []) (ws' := [(n0, oX12 th dp my sm st sz mo ms yb hpk pkr rt rk rx hsh si gt va (cn 0) wd3 wa3 re ua pkk pxx bp mk bi pl cd rn rch rtn rdp rki rea rby rsh), (my, aI x.g 2 cn), (sm, aI x.g 800 ss), (va, aI x.g 400 v3)]) [0, 1, 2, 3] [2, 0, 1, 3] rfl rfl (by decide) rfl ?_
          refine j_norm (lv' := []) (st' := []) (ws' := [(n0, oX12 th dp my sm st sz mo ms yb hpk pkr rt rk rx hsh si gt va (cn 0) wd3 wa3 re ua pkk pxx bp mk bi pl cd rn rch rtn rdp rki rea rby rsh), (my, aI x.g 2 cn), (sm, aI x.g 800 ss), (va, aI x.g 400 v3)]) [] [0, 1, 2, 3] rfl rfl (by decide) rfl ?_
          exact j_vret jb jr dX12_valuesOf_219 ⟨_, _, _, rfl, rfl, (by rw [← hjt, hrb]; exact ⟨by rw [← orF_cg (cn 0).toNat (fun j a b => hen j a (by omega))]; exact h216.1, h216.2.1, h216.2.2.1, fun j a b => by rw [h216.2.2.2 j a b, hen j a b]; rfl⟩)⟩
        · skip
          refine j_aload_n jb dX12_valuesOf_20 0 rfl ?_
          refine j_get jb f_X12_20 dX12_valuesOf_21 0 rfl rfl ?_
          refine j_iload_n jb dX12_valuesOf_24 3 rfl ?_
          refine j_iald jb dX12_valuesOf_25 2 rfl (by omega) (by decide) ?_
          refine j_istore (lv' := [(4, .int (iI (ss i))), (0, .ref n0), (1, .int (iI 1)), (2, .int (iI 1)), (3, .int (iI i))]) jb dX12_valuesOf_26 (by decide) rfl ?_
          refine j_aload_n jb dX12_valuesOf_28 1 rfl ?_
          refine j_get jb f_X12_20 dX12_valuesOf_29 0 rfl rfl ?_
          refine j_sipush jb dX12_valuesOf_32 (by decide) ?_
          refine j_iload_n jb dX12_valuesOf_35 4 rfl ?_
          refine j_iadd jb dX12_valuesOf_36 ?_
          refine j_iald jb dX12_valuesOf_37 2 rfl (by omega) (by decide) ?_
          refine j_istore (lv' := [(5, .int (iI (ss (400 + i)))), (4, .int (iI (ss i))), (0, .ref n0), (1, .int (iI 1)), (2, .int (iI 1)), (3, .int (iI i))]) jb dX12_valuesOf_38 (by decide) rfl ?_
          refine j_iload_n jb dX12_valuesOf_40 3 rfl ?_
          refine j_iconst jb dX12_valuesOf_41 ?_
          refine j_icmp_ne (tgt := 50) jb dX12_valuesOf_42 (by decide) (by decide) (by decide) (fun h => absurd h (by decide)) (fun _ => ?_)
          refine j_iload_n jb dX12_valuesOf_45 4 rfl ?_
          refine j_iconst jb dX12_valuesOf_46 ?_
          refine j_icmp_eq (tgt := 69) jb dX12_valuesOf_47 (by decide) (by decide) (by decide) (fun _ => ?_) (fun h => absurd h (by decide))
          refine j_iconst jb dX12_valuesOf_69 ?_
          refine j_goto (tgt := 74) jb dX12_valuesOf_70 (by decide) ?_
          refine j_istore (lv' := [(6, .int (iI 1)), (5, .int (iI (ss (400 + i)))), (4, .int (iI (ss i))), (0, .ref n0), (1, .int (iI 1)), (2, .int (iI 1)), (3, .int (iI i))]) jb dX12_valuesOf_74 (by decide) rfl ?_
          refine j_iload_n jb dX12_valuesOf_76 4 rfl ?_
          refine j_iconst jb dX12_valuesOf_77 ?_
          refine j_icmp_ne (tgt := 89) jb dX12_valuesOf_78 (by decide) (by decide) (by decide) (fun _ => ?_) (fun h => absurd h (by decide))
          refine j_iconst jb dX12_valuesOf_89 ?_
          refine j_istore (lv' := [(7, .int (iI 0)), (6, .int (iI 1)), (5, .int (iI (ss (400 + i)))), (4, .int (iI (ss i))), (0, .ref n0), (1, .int (iI 1)), (2, .int (iI 1)), (3, .int (iI i))]) jb dX12_valuesOf_90 (by decide) rfl ?_
          refine j_aload_n jb dX12_valuesOf_92 4 rfl ?_
          refine j_get jb f_X12_47 dX12_valuesOf_93 0 rfl rfl ?_
          refine j_iload_n jb dX12_valuesOf_96 7 rfl ?_
          refine j_iload jb dX12_valuesOf_97 1 rfl ?_
          refine j_if_eq (tgt := 110) jb dX12_valuesOf_99 (by decide) (by decide) (fun h => absurd h (by decide)) (fun _ => ?_)
          refine j_iload jb dX12_valuesOf_102 3 rfl ?_
          refine j_iload jb dX12_valuesOf_104 2 rfl ?_
          refine j_isub jb dX12_valuesOf_106 ?_
          refine j_goto (tgt := 156) jb dX12_valuesOf_107 (by decide) ?_
          refine j_iast (ws' := [(n0, oX12 th dp my sm st sz mo ms yb hpk pkr rt rk rx hsh si gt va (cn 0) wd wa re ua pkk pxx bp mk bi pl cd rn rch rtn rdp rki rea rby rsh), (my, aI x.g 2 cn), (sm, aI x.g 800 ss), (va, aI x.g 400 (zup v1 i ((ss i) - (ss (400 + i)))))]) jb dX12_valuesOf_156 3 rfl (by omega) (by decide) rfl ?_
          refine j_iinc (lv' := [(3, .int (iI (i + 1))), (7, .int (iI 0)), (6, .int (iI 1)), (5, .int (iI (ss (400 + i)))), (4, .int (iI (ss i))), (0, .ref n0), (1, .int (iI 1)), (2, .int (iI 1))]) jb dX12_valuesOf_157 7 rfl (by decide) rfl ?_
          refine j_goto (tgt := 12) jb dX12_valuesOf_160 (by decide) ?_
          refine j_norm (lv' := [(0, .ref n0), (1, .int (iI 1)), (2, .int (iI 1)), (3, .int (iI (i + 1)))]) (st' := []) (ws' := [(n0, oX12 th dp my sm st sz mo ms yb hpk pkr rt rk rx hsh si gt va (cn 0) wd wa re ua pkk pxx bp mk bi pl cd rn rch rtn rdp rki rea rby rsh), (my, aI x.g 2 cn), (sm, aI x.g 800 ss), (va, aI x.g 400 (zup v1 i ((ss i) - (ss (400 + i)))))]) [5, 6, 7, 0] [0, 1, 2, 3] rfl rfl (by decide) rfl ?_
          exact ih12 (i + 1) (zup v1 i ((ss i) - (ss (400 + i)))) ⟨by omega, by omega, fun j a b => by (by_cases e : j = i); { rw [e, zup_s, ejt]; rfl }; { rw [zup_n e]; exact hi3 j a (by omega) }⟩ (by omega)
    refine j_norm (lv' := [(0, .ref n0), (1, .int (iI 1)), (2, .int (iI 1)), (3, .int (iI 0))]) (st' := []) (ws' := [(n0, oX12 th dp my sm st sz mo ms yb hpk pkr rt rk rx hsh si gt va (cn 0) wd wa re ua pkk pxx bp mk bi pl cd rn rch rtn rdp rki rea rby rsh), (my, aI x.g 2 cn), (sm, aI x.g 800 ss), (va, aI x.g 400 val)]) [1, 2, 3, 0] [0, 1, 2, 3] rfl rfl (by decide) rfl ?_
    exact L12 _ 0 val ⟨by decide, by omega, fun j a b => by omega⟩ (Nat.lt_succ_self _)
  · skip
    obtain ⟨e1, e2⟩ := e
    subst e1; subst e2
    have ejt : jt = 2 := hjt.trans (by decide)
    have h1 : jt = 0 ∨ ∀ i, 0 ≤ i → i < cn 0 → -32768 ≤ ss (400 + i) ∧ ss (400 + i) < 32768 := by (rcases h1 with z | z; { left; rw [hjt]; exact absurd z (by decide) }; { exact Or.inr z })
    have hrb : rbJ dp jt = dp + 1 := by (rw [ejt]; rfl)
    refine j_aload_n jb dX12_valuesOf_0 0 rfl ?_
    refine j_aload_n jb dX12_valuesOf_1 0 rfl ?_
    refine j_get jb f_X12_16 dX12_valuesOf_2 0 rfl rfl ?_
    refine j_iconst jb dX12_valuesOf_5 ?_
    refine j_iald jb dX12_valuesOf_6 1 rfl (by omega) (by decide) ?_
    refine j_put (ws' := [(n0, oX12 th dp my sm st sz mo ms yb hpk pkr rt rk rx hsh si gt va (cn 0) wd wa re ua pkk pxx bp mk bi pl cd rn rch rtn rdp rki rea rby rsh), (my, aI x.g 2 cn), (sm, aI x.g 800 ss), (va, aI x.g 400 val)]) jb f_X12_92 w_X12_18 rfl dX12_valuesOf_7 0 rfl rfl rfl (Nat.le_of_ble_eq_true rfl) rfl ?_
    refine j_iconst jb dX12_valuesOf_10 ?_
    refine j_istore_n (lv' := [(3, .int (iI 0)), (0, .ref n0), (1, .int (iI 2)), (2, .int (iI 0))]) jb dX12_valuesOf_11 rfl (by decide) rfl ?_
    have L12 : ∀ (fu : Nat) (i : Int) (v1 : Int → Int), (0 ≤ i ∧ i ≤ cn 0 ∧ ∀ j, 0 ≤ j → j < i → v1 j = (selR ss (fun i => ss (400 + i)) jt) j) → (cn 0 - i).toNat < fu → JW x 0 0 12 [(0, .ref n0), (1, .int (iI 2)), (2, .int (iI 0)), (3, .int (iI i))] [] [(n0, oX12 th dp my sm st sz mo ms yb hpk pkr rt rk rx hsh si gt va (cn 0) wd wa re ua pkk pxx bp mk bi pl cd rn rch rtn rdp rki rea rby rsh), (my, aI x.g 2 cn), (sm, aI x.g 800 ss), (va, aI x.g 400 v1)] := by
      intro fu
      induction fu with
      | zero => intro i v1 _ hm; exact absurd hm (by omega)
      | succ fu ih =>
        intro i v1 ⟨hi1, hi2, hi3⟩ hm12
        have ih12 := ih
        clear ih
        refine j_iload_n jb dX12_valuesOf_12 3 rfl ?_
        refine j_aload_n jb dX12_valuesOf_13 0 rfl ?_
        refine j_get jb f_X12_92 dX12_valuesOf_14 0 rfl rfl ?_
        refine j_icmp_ge (tgt := 163) jb dX12_valuesOf_17 (by decide) (by omega) (by omega) (fun c_17 => ?_) (fun c_17 => ?_)
        · skip
          have hen : eqOn v1 (selR ss (fun i => ss (400 + i)) jt) 0 (cn 0) := fun j a b => hi3 j a (by omega)
          refine j_iload_n jb dX12_valuesOf_163 1 rfl ?_
          refine j_iconst jb dX12_valuesOf_164 ?_
          refine j_icmp_ne (tgt := 173) jb dX12_valuesOf_165 (by decide) (by decide) (by decide) (fun _ => ?_) (fun h => absurd h (by decide))
          refine j_iload_n jb dX12_valuesOf_173 1 rfl ?_
          refine j_iconst jb dX12_valuesOf_174 ?_
          refine j_icmp_ne (tgt := 182) jb dX12_valuesOf_175 (by decide) (by decide) (by decide) (fun h => absurd h (by decide)) (fun _ => ?_)
          refine j_iload_n jb dX12_valuesOf_178 2 rfl ?_
          refine j_if_eq (tgt := 192) jb dX12_valuesOf_179 (by decide) (by decide) (fun _ => ?_) (fun h => absurd h (by decide))
          refine j_iconst jb dX12_valuesOf_192 ?_
          refine j_goto (tgt := 197) jb dX12_valuesOf_193 (by decide) ?_
          refine j_istore_n (lv' := [(3, .int (iI 1)), (0, .ref n0), (1, .int (iI 2)), (2, .int (iI 0))]) jb dX12_valuesOf_197 rfl (by decide) rfl ?_
          refine j_aload_n jb dX12_valuesOf_198 1 rfl ?_
          refine j_iload_n jb dX12_valuesOf_199 0 rfl ?_
          refine j_if_eq (tgt := 212) jb dX12_valuesOf_200 (by decide) (by decide) (fun h => absurd h (by decide)) (fun _ => ?_)
          refine j_aload_n jb dX12_valuesOf_203 1 rfl ?_
          refine j_get jb f_X12_13 dX12_valuesOf_204 0 rfl rfl ?_
          refine j_iconst jb dX12_valuesOf_207 ?_
          refine j_iadd jb dX12_valuesOf_208 ?_
          refine j_goto (tgt := 216) jb dX12_valuesOf_209 (by decide) ?_
          refine j_callV (wr := [(my, aI x.g 2 cn), (sm, aI x.g 800 ss)]) jb k_X12_takeOut i_X12_takeOut s_X12_takeOut l_X12_159 (C_X12_takeOut x.l x.g n0 my sm st yb pkr rt rk rx si gt va re ua mk rki rea rby th dp sz mo ms hpk hsh (cn 0) wd wa pkk pxx bp bi pl cd rn rch rtn rdp rsh (dp + 1) v1 (by omega) (by omega) (fun j a b => by rw [hen j a b]; exact selR_in h0 h1 j a b)) 0 14 rfl rfl rfl [0, 3] [1, 2] (by decide) rfl rfl (by decide) (by decide) rfl rfl (Nat.le_of_ble_eq_true rfl) (by decide) dX12_valuesOf_216 (fun v w hp => ?_)
          obtain ⟨wa3, wd3, v3, rfl, rfl, h216⟩ := hp
          refine j_norm (lv' := [(3, .int (iI 1)), (0, .ref n0), (1, .int (iI 2)), (2, .int (iI 0))]) (st' := []) (ws' := [(n0, oX12 th dp my sm st sz mo ms yb hpk pkr rt rk rx hsh si gt va (cn 0) wd3 wa3 re ua pkk pxx bp mk bi pl cd rn rch rtn rdp rki rea rby rsh), (my, aI x.g 2 cn), (sm, aI x.g 800 ss), (va, aI x.g 400 v3)]) [0, 1, 2, 3] [2, 0, 1, 3] rfl rfl (by decide) rfl ?_
          refine j_norm (lv' := []) (st' := []) (ws' := [(n0, oX12 th dp my sm st sz mo ms yb hpk pkr rt rk rx hsh si gt va (cn 0) wd3 wa3 re ua pkk pxx bp mk bi pl cd rn rch rtn rdp rki rea rby rsh), (my, aI x.g 2 cn), (sm, aI x.g 800 ss), (va, aI x.g 400 v3)]) [] [0, 1, 2, 3] rfl rfl (by decide) rfl ?_
          exact j_vret jb jr dX12_valuesOf_219 ⟨_, _, _, rfl, rfl, (by rw [← hjt, hrb]; exact ⟨by rw [← orF_cg (cn 0).toNat (fun j a b => hen j a (by omega))]; exact h216.1, h216.2.1, h216.2.2.1, fun j a b => by rw [h216.2.2.2 j a b, hen j a b]; rfl⟩)⟩
        · skip
          refine j_aload_n jb dX12_valuesOf_20 0 rfl ?_
          refine j_get jb f_X12_20 dX12_valuesOf_21 0 rfl rfl ?_
          refine j_iload_n jb dX12_valuesOf_24 3 rfl ?_
          refine j_iald jb dX12_valuesOf_25 2 rfl (by omega) (by decide) ?_
          refine j_istore (lv' := [(4, .int (iI (ss i))), (0, .ref n0), (1, .int (iI 2)), (2, .int (iI 0)), (3, .int (iI i))]) jb dX12_valuesOf_26 (by decide) rfl ?_
          refine j_aload_n jb dX12_valuesOf_28 1 rfl ?_
          refine j_get jb f_X12_20 dX12_valuesOf_29 0 rfl rfl ?_
          refine j_sipush jb dX12_valuesOf_32 (by decide) ?_
          refine j_iload_n jb dX12_valuesOf_35 4 rfl ?_
          refine j_iadd jb dX12_valuesOf_36 ?_
          refine j_iald jb dX12_valuesOf_37 2 rfl (by omega) (by decide) ?_
          refine j_istore (lv' := [(5, .int (iI (ss (400 + i)))), (4, .int (iI (ss i))), (0, .ref n0), (1, .int (iI 2)), (2, .int (iI 0)), (3, .int (iI i))]) jb dX12_valuesOf_38 (by decide) rfl ?_
          refine j_iload_n jb dX12_valuesOf_40 3 rfl ?_
          refine j_iconst jb dX12_valuesOf_41 ?_
          refine j_icmp_ne (tgt := 50) jb dX12_valuesOf_42 (by decide) (by decide) (by decide) (fun _ => ?_) (fun h => absurd h (by decide))
          refine j_iload_n jb dX12_valuesOf_50 3 rfl ?_
          refine j_iconst jb dX12_valuesOf_51 ?_
          refine j_icmp_ne (tgt := 59) jb dX12_valuesOf_52 (by decide) (by decide) (by decide) (fun h => absurd h (by decide)) (fun _ => ?_)
          refine j_iload_n jb dX12_valuesOf_55 4 rfl ?_
          refine j_if_eq (tgt := 69) jb dX12_valuesOf_56 (by decide) (by decide) (fun _ => ?_) (fun h => absurd h (by decide))
          refine j_iconst jb dX12_valuesOf_69 ?_
          refine j_goto (tgt := 74) jb dX12_valuesOf_70 (by decide) ?_
          refine j_istore (lv' := [(6, .int (iI 1)), (5, .int (iI (ss (400 + i)))), (4, .int (iI (ss i))), (0, .ref n0), (1, .int (iI 2)), (2, .int (iI 0)), (3, .int (iI i))]) jb dX12_valuesOf_74 (by decide) rfl ?_
          refine j_iload_n jb dX12_valuesOf_76 4 rfl ?_
          refine j_iconst jb dX12_valuesOf_77 ?_
          refine j_icmp_ne (tgt := 89) jb dX12_valuesOf_78 (by decide) (by decide) (by decide) (fun _ => ?_) (fun h => absurd h (by decide))
          refine j_iconst jb dX12_valuesOf_89 ?_
          refine j_istore (lv' := [(7, .int (iI 0)), (6, .int (iI 1)), (5, .int (iI (ss (400 + i)))), (4, .int (iI (ss i))), (0, .ref n0), (1, .int (iI 2)), (2, .int (iI 0)), (3, .int (iI i))]) jb dX12_valuesOf_90 (by decide) rfl ?_
          refine j_aload_n jb dX12_valuesOf_92 4 rfl ?_
          refine j_get jb f_X12_47 dX12_valuesOf_93 0 rfl rfl ?_
          refine j_iload_n jb dX12_valuesOf_96 7 rfl ?_
          refine j_iload jb dX12_valuesOf_97 1 rfl ?_
          refine j_if_eq (tgt := 110) jb dX12_valuesOf_99 (by decide) (by decide) (fun h => absurd h (by decide)) (fun _ => ?_)
          refine j_iload jb dX12_valuesOf_102 3 rfl ?_
          refine j_iload jb dX12_valuesOf_104 2 rfl ?_
          refine j_isub jb dX12_valuesOf_106 ?_
          refine j_goto (tgt := 156) jb dX12_valuesOf_107 (by decide) ?_
          refine j_iast (ws' := [(n0, oX12 th dp my sm st sz mo ms yb hpk pkr rt rk rx hsh si gt va (cn 0) wd wa re ua pkk pxx bp mk bi pl cd rn rch rtn rdp rki rea rby rsh), (my, aI x.g 2 cn), (sm, aI x.g 800 ss), (va, aI x.g 400 (zup v1 i ((ss i) - (ss (400 + i)))))]) jb dX12_valuesOf_156 3 rfl (by omega) (by decide) rfl ?_
          refine j_iinc (lv' := [(3, .int (iI (i + 1))), (7, .int (iI 0)), (6, .int (iI 1)), (5, .int (iI (ss (400 + i)))), (4, .int (iI (ss i))), (0, .ref n0), (1, .int (iI 2)), (2, .int (iI 0))]) jb dX12_valuesOf_157 7 rfl (by decide) rfl ?_
          refine j_goto (tgt := 12) jb dX12_valuesOf_160 (by decide) ?_
          refine j_norm (lv' := [(0, .ref n0), (1, .int (iI 2)), (2, .int (iI 0)), (3, .int (iI (i + 1)))]) (st' := []) (ws' := [(n0, oX12 th dp my sm st sz mo ms yb hpk pkr rt rk rx hsh si gt va (cn 0) wd wa re ua pkk pxx bp mk bi pl cd rn rch rtn rdp rki rea rby rsh), (my, aI x.g 2 cn), (sm, aI x.g 800 ss), (va, aI x.g 400 (zup v1 i ((ss i) - (ss (400 + i)))))]) [5, 6, 7, 0] [0, 1, 2, 3] rfl rfl (by decide) rfl ?_
          exact ih12 (i + 1) (zup v1 i ((ss i) - (ss (400 + i)))) ⟨by omega, by omega, fun j a b => by (by_cases e : j = i); { rw [e, zup_s, ejt]; rfl }; { rw [zup_n e]; exact hi3 j a (by omega) }⟩ (by omega)
    refine j_norm (lv' := [(0, .ref n0), (1, .int (iI 2)), (2, .int (iI 0)), (3, .int (iI 0))]) (st' := []) (ws' := [(n0, oX12 th dp my sm st sz mo ms yb hpk pkr rt rk rx hsh si gt va (cn 0) wd wa re ua pkk pxx bp mk bi pl cd rn rch rtn rdp rki rea rby rsh), (my, aI x.g 2 cn), (sm, aI x.g 800 ss), (va, aI x.g 400 val)]) [1, 2, 3, 0] [0, 1, 2, 3] rfl rfl (by decide) rfl ?_
    exact L12 _ 0 val ⟨by decide, by omega, fun j a b => by omega⟩ (Nat.lt_succ_self _)
  · skip
    obtain ⟨e1, e2⟩ := e
    subst e1; subst e2
    have ejt : jt = 1 := hjt.trans (by decide)
    have h1 : jt = 0 ∨ ∀ i, 0 ≤ i → i < cn 0 → -32768 ≤ ss (400 + i) ∧ ss (400 + i) < 32768 := by (rcases h1 with z | z; { left; rw [hjt]; exact absurd z (by decide) }; { exact Or.inr z })
    have hrb : rbJ dp jt = dp := by (rw [ejt]; rfl)
    refine j_aload_n jb dX12_valuesOf_0 0 rfl ?_
    refine j_aload_n jb dX12_valuesOf_1 0 rfl ?_
    refine j_get jb f_X12_16 dX12_valuesOf_2 0 rfl rfl ?_
    refine j_iconst jb dX12_valuesOf_5 ?_
    refine j_iald jb dX12_valuesOf_6 1 rfl (by omega) (by decide) ?_
    refine j_put (ws' := [(n0, oX12 th dp my sm st sz mo ms yb hpk pkr rt rk rx hsh si gt va (cn 0) wd wa re ua pkk pxx bp mk bi pl cd rn rch rtn rdp rki rea rby rsh), (my, aI x.g 2 cn), (sm, aI x.g 800 ss), (va, aI x.g 400 val)]) jb f_X12_92 w_X12_18 rfl dX12_valuesOf_7 0 rfl rfl rfl (Nat.le_of_ble_eq_true rfl) rfl ?_
    refine j_iconst jb dX12_valuesOf_10 ?_
    refine j_istore_n (lv' := [(3, .int (iI 0)), (0, .ref n0), (1, .int (iI 2)), (2, .int (iI 1))]) jb dX12_valuesOf_11 rfl (by decide) rfl ?_
    have L12 : ∀ (fu : Nat) (i : Int) (v1 : Int → Int), (0 ≤ i ∧ i ≤ cn 0 ∧ ∀ j, 0 ≤ j → j < i → v1 j = (selR ss (fun i => ss (400 + i)) jt) j) → (cn 0 - i).toNat < fu → JW x 0 0 12 [(0, .ref n0), (1, .int (iI 2)), (2, .int (iI 1)), (3, .int (iI i))] [] [(n0, oX12 th dp my sm st sz mo ms yb hpk pkr rt rk rx hsh si gt va (cn 0) wd wa re ua pkk pxx bp mk bi pl cd rn rch rtn rdp rki rea rby rsh), (my, aI x.g 2 cn), (sm, aI x.g 800 ss), (va, aI x.g 400 v1)] := by
      intro fu
      induction fu with
      | zero => intro i v1 _ hm; exact absurd hm (by omega)
      | succ fu ih =>
        intro i v1 ⟨hi1, hi2, hi3⟩ hm12
        have ih12 := ih
        clear ih
        refine j_iload_n jb dX12_valuesOf_12 3 rfl ?_
        refine j_aload_n jb dX12_valuesOf_13 0 rfl ?_
        refine j_get jb f_X12_92 dX12_valuesOf_14 0 rfl rfl ?_
        refine j_icmp_ge (tgt := 163) jb dX12_valuesOf_17 (by decide) (by omega) (by omega) (fun c_17 => ?_) (fun c_17 => ?_)
        · skip
          have hen : eqOn v1 (selR ss (fun i => ss (400 + i)) jt) 0 (cn 0) := fun j a b => hi3 j a (by omega)
          refine j_iload_n jb dX12_valuesOf_163 1 rfl ?_
          refine j_iconst jb dX12_valuesOf_164 ?_
          refine j_icmp_ne (tgt := 173) jb dX12_valuesOf_165 (by decide) (by decide) (by decide) (fun _ => ?_) (fun h => absurd h (by decide))
          refine j_iload_n jb dX12_valuesOf_173 1 rfl ?_
          refine j_iconst jb dX12_valuesOf_174 ?_
          refine j_icmp_ne (tgt := 182) jb dX12_valuesOf_175 (by decide) (by decide) (by decide) (fun h => absurd h (by decide)) (fun _ => ?_)
          refine j_iload_n jb dX12_valuesOf_178 2 rfl ?_
          refine j_if_eq (tgt := 192) jb dX12_valuesOf_179 (by decide) (by decide) (fun h => absurd h (by decide)) (fun _ => ?_)
          refine j_iload_n jb dX12_valuesOf_182 1 rfl ?_
          refine j_iconst jb dX12_valuesOf_183 ?_
          refine j_icmp_ne (tgt := 196) jb dX12_valuesOf_184 (by decide) (by decide) (by decide) (fun _ => ?_) (fun h => absurd h (by decide))
          refine j_iconst jb dX12_valuesOf_196 ?_
          refine j_istore_n (lv' := [(3, .int (iI 0)), (0, .ref n0), (1, .int (iI 2)), (2, .int (iI 1))]) jb dX12_valuesOf_197 rfl (by decide) rfl ?_
          refine j_aload_n jb dX12_valuesOf_198 1 rfl ?_
          refine j_iload_n jb dX12_valuesOf_199 0 rfl ?_
          refine j_if_eq (tgt := 212) jb dX12_valuesOf_200 (by decide) (by decide) (fun _ => ?_) (fun h => absurd h (by decide))
          refine j_aload_n jb dX12_valuesOf_212 1 rfl ?_
          refine j_get jb f_X12_13 dX12_valuesOf_213 0 rfl rfl ?_
          refine j_callV (wr := [(my, aI x.g 2 cn), (sm, aI x.g 800 ss)]) jb k_X12_takeOut i_X12_takeOut s_X12_takeOut l_X12_159 (C_X12_takeOut x.l x.g n0 my sm st yb pkr rt rk rx si gt va re ua mk rki rea rby th dp sz mo ms hpk hsh (cn 0) wd wa pkk pxx bp bi pl cd rn rch rtn rdp rsh dp v1 (by omega) (by omega) (fun j a b => by rw [hen j a b]; exact selR_in h0 h1 j a b)) 0 14 rfl rfl rfl [0, 3] [1, 2] (by decide) rfl rfl (by decide) (by decide) rfl rfl (Nat.le_of_ble_eq_true rfl) (by decide) dX12_valuesOf_216 (fun v w hp => ?_)
          obtain ⟨wa3, wd3, v3, rfl, rfl, h216⟩ := hp
          refine j_norm (lv' := [(3, .int (iI 0)), (0, .ref n0), (1, .int (iI 2)), (2, .int (iI 1))]) (st' := []) (ws' := [(n0, oX12 th dp my sm st sz mo ms yb hpk pkr rt rk rx hsh si gt va (cn 0) wd3 wa3 re ua pkk pxx bp mk bi pl cd rn rch rtn rdp rki rea rby rsh), (my, aI x.g 2 cn), (sm, aI x.g 800 ss), (va, aI x.g 400 v3)]) [0, 1, 2, 3] [2, 0, 1, 3] rfl rfl (by decide) rfl ?_
          refine j_norm (lv' := []) (st' := []) (ws' := [(n0, oX12 th dp my sm st sz mo ms yb hpk pkr rt rk rx hsh si gt va (cn 0) wd3 wa3 re ua pkk pxx bp mk bi pl cd rn rch rtn rdp rki rea rby rsh), (my, aI x.g 2 cn), (sm, aI x.g 800 ss), (va, aI x.g 400 v3)]) [] [0, 1, 2, 3] rfl rfl (by decide) rfl ?_
          exact j_vret jb jr dX12_valuesOf_219 ⟨_, _, _, rfl, rfl, (by rw [← hjt, hrb]; exact ⟨by rw [← orF_cg (cn 0).toNat (fun j a b => hen j a (by omega))]; exact h216.1, h216.2.1, h216.2.2.1, fun j a b => by rw [h216.2.2.2 j a b, hen j a b]; rfl⟩)⟩
        · skip
          refine j_aload_n jb dX12_valuesOf_20 0 rfl ?_
          refine j_get jb f_X12_20 dX12_valuesOf_21 0 rfl rfl ?_
          refine j_iload_n jb dX12_valuesOf_24 3 rfl ?_
          refine j_iald jb dX12_valuesOf_25 2 rfl (by omega) (by decide) ?_
          refine j_istore (lv' := [(4, .int (iI (ss i))), (0, .ref n0), (1, .int (iI 2)), (2, .int (iI 1)), (3, .int (iI i))]) jb dX12_valuesOf_26 (by decide) rfl ?_
          refine j_aload_n jb dX12_valuesOf_28 1 rfl ?_
          refine j_get jb f_X12_20 dX12_valuesOf_29 0 rfl rfl ?_
          refine j_sipush jb dX12_valuesOf_32 (by decide) ?_
          refine j_iload_n jb dX12_valuesOf_35 4 rfl ?_
          refine j_iadd jb dX12_valuesOf_36 ?_
          refine j_iald jb dX12_valuesOf_37 2 rfl (by omega) (by decide) ?_
          refine j_istore (lv' := [(5, .int (iI (ss (400 + i)))), (4, .int (iI (ss i))), (0, .ref n0), (1, .int (iI 2)), (2, .int (iI 1)), (3, .int (iI i))]) jb dX12_valuesOf_38 (by decide) rfl ?_
          refine j_iload_n jb dX12_valuesOf_40 3 rfl ?_
          refine j_iconst jb dX12_valuesOf_41 ?_
          refine j_icmp_ne (tgt := 50) jb dX12_valuesOf_42 (by decide) (by decide) (by decide) (fun _ => ?_) (fun h => absurd h (by decide))
          refine j_iload_n jb dX12_valuesOf_50 3 rfl ?_
          refine j_iconst jb dX12_valuesOf_51 ?_
          refine j_icmp_ne (tgt := 59) jb dX12_valuesOf_52 (by decide) (by decide) (by decide) (fun h => absurd h (by decide)) (fun _ => ?_)
          refine j_iload_n jb dX12_valuesOf_55 4 rfl ?_
          refine j_if_eq (tgt := 69) jb dX12_valuesOf_56 (by decide) (by decide) (fun h => absurd h (by decide)) (fun _ => ?_)
          refine j_iload_n jb dX12_valuesOf_59 3 rfl ?_
          refine j_iconst jb dX12_valuesOf_60 ?_
          refine j_icmp_ne (tgt := 73) jb dX12_valuesOf_61 (by decide) (by decide) (by decide) (fun _ => ?_) (fun h => absurd h (by decide))
          refine j_iconst jb dX12_valuesOf_73 ?_
          refine j_istore (lv' := [(6, .int (iI 0)), (5, .int (iI (ss (400 + i)))), (4, .int (iI (ss i))), (0, .ref n0), (1, .int (iI 2)), (2, .int (iI 1)), (3, .int (iI i))]) jb dX12_valuesOf_74 (by decide) rfl ?_
          refine j_iload_n jb dX12_valuesOf_76 4 rfl ?_
          refine j_iconst jb dX12_valuesOf_77 ?_
          refine j_icmp_ne (tgt := 89) jb dX12_valuesOf_78 (by decide) (by decide) (by decide) (fun _ => ?_) (fun h => absurd h (by decide))
          refine j_iconst jb dX12_valuesOf_89 ?_
          refine j_istore (lv' := [(7, .int (iI 0)), (6, .int (iI 0)), (5, .int (iI (ss (400 + i)))), (4, .int (iI (ss i))), (0, .ref n0), (1, .int (iI 2)), (2, .int (iI 1)), (3, .int (iI i))]) jb dX12_valuesOf_90 (by decide) rfl ?_
          refine j_aload_n jb dX12_valuesOf_92 4 rfl ?_
          refine j_get jb f_X12_47 dX12_valuesOf_93 0 rfl rfl ?_
          refine j_iload_n jb dX12_valuesOf_96 7 rfl ?_
          refine j_iload jb dX12_valuesOf_97 1 rfl ?_
          refine j_if_eq (tgt := 110) jb dX12_valuesOf_99 (by decide) (by decide) (fun _ => ?_) (fun h => absurd h (by decide))
          refine j_iload jb dX12_valuesOf_110 0 rfl ?_
          refine j_if_eq (tgt := 125) jb dX12_valuesOf_112 (by decide) (by decide) (fun _ => ?_) (fun h => absurd h (by decide))
          refine j_iload_n jb dX12_valuesOf_125 5 rfl ?_
          refine j_iconst jb dX12_valuesOf_126 ?_
          refine j_icmp_ne (tgt := 135) jb dX12_valuesOf_127 (by decide) (by decide) (by decide) (fun h => absurd h (by decide)) (fun _ => ?_)
          refine j_iload jb dX12_valuesOf_130 2 rfl ?_
          refine j_goto (tgt := 156) jb dX12_valuesOf_132 (by decide) ?_
          refine j_iast (ws' := [(n0, oX12 th dp my sm st sz mo ms yb hpk pkr rt rk rx hsh si gt va (cn 0) wd wa re ua pkk pxx bp mk bi pl cd rn rch rtn rdp rki rea rby rsh), (my, aI x.g 2 cn), (sm, aI x.g 800 ss), (va, aI x.g 400 (zup v1 i (ss (400 + i))))]) jb dX12_valuesOf_156 3 rfl (by omega) (by decide) rfl ?_
          refine j_iinc (lv' := [(3, .int (iI (i + 1))), (7, .int (iI 0)), (6, .int (iI 0)), (5, .int (iI (ss (400 + i)))), (4, .int (iI (ss i))), (0, .ref n0), (1, .int (iI 2)), (2, .int (iI 1))]) jb dX12_valuesOf_157 7 rfl (by decide) rfl ?_
          refine j_goto (tgt := 12) jb dX12_valuesOf_160 (by decide) ?_
          refine j_norm (lv' := [(0, .ref n0), (1, .int (iI 2)), (2, .int (iI 1)), (3, .int (iI (i + 1)))]) (st' := []) (ws' := [(n0, oX12 th dp my sm st sz mo ms yb hpk pkr rt rk rx hsh si gt va (cn 0) wd wa re ua pkk pxx bp mk bi pl cd rn rch rtn rdp rki rea rby rsh), (my, aI x.g 2 cn), (sm, aI x.g 800 ss), (va, aI x.g 400 (zup v1 i (ss (400 + i))))]) [5, 6, 7, 0] [0, 1, 2, 3] rfl rfl (by decide) rfl ?_
          exact ih12 (i + 1) (zup v1 i (ss (400 + i))) ⟨by omega, by omega, fun j a b => by (by_cases e : j = i); { rw [e, zup_s, ejt]; rfl }; { rw [zup_n e]; exact hi3 j a (by omega) }⟩ (by omega)
    refine j_norm (lv' := [(0, .ref n0), (1, .int (iI 2)), (2, .int (iI 1)), (3, .int (iI 0))]) (st' := []) (ws' := [(n0, oX12 th dp my sm st sz mo ms yb hpk pkr rt rk rx hsh si gt va (cn 0) wd wa re ua pkk pxx bp mk bi pl cd rn rch rtn rdp rki rea rby rsh), (my, aI x.g 2 cn), (sm, aI x.g 800 ss), (va, aI x.g 400 val)]) [1, 2, 3, 0] [0, 1, 2, 3] rfl rfl (by decide) rfl ?_
    exact L12 _ 0 val ⟨by decide, by omega, fun j a b => by omega⟩ (Nat.lt_succ_self _)
  · skip
    obtain ⟨e1, e2⟩ := e
    subst e1; subst e2
    have ejt : jt = 3 := hjt.trans (by decide)
    have h1 : jt = 0 ∨ ∀ i, 0 ≤ i → i < cn 0 → -32768 ≤ ss (400 + i) ∧ ss (400 + i) < 32768 := by (rcases h1 with z | z; { left; rw [hjt]; exact absurd z (by decide) }; { exact Or.inr z })
    have hrb : rbJ dp jt = dp := by (rw [ejt]; rfl)
    refine j_aload_n jb dX12_valuesOf_0 0 rfl ?_
    refine j_aload_n jb dX12_valuesOf_1 0 rfl ?_
    refine j_get jb f_X12_16 dX12_valuesOf_2 0 rfl rfl ?_
    refine j_iconst jb dX12_valuesOf_5 ?_
    refine j_iald jb dX12_valuesOf_6 1 rfl (by omega) (by decide) ?_
    refine j_put (ws' := [(n0, oX12 th dp my sm st sz mo ms yb hpk pkr rt rk rx hsh si gt va (cn 0) wd wa re ua pkk pxx bp mk bi pl cd rn rch rtn rdp rki rea rby rsh), (my, aI x.g 2 cn), (sm, aI x.g 800 ss), (va, aI x.g 400 val)]) jb f_X12_92 w_X12_18 rfl dX12_valuesOf_7 0 rfl rfl rfl (Nat.le_of_ble_eq_true rfl) rfl ?_
    refine j_iconst jb dX12_valuesOf_10 ?_
    refine j_istore_n (lv' := [(3, .int (iI 0)), (0, .ref n0), (1, .int (iI 3)), (2, .int (iI 0))]) jb dX12_valuesOf_11 rfl (by decide) rfl ?_
    have L12 : ∀ (fu : Nat) (i : Int) (v1 : Int → Int), (0 ≤ i ∧ i ≤ cn 0 ∧ ∀ j, 0 ≤ j → j < i → v1 j = (selR ss (fun i => ss (400 + i)) jt) j) → (cn 0 - i).toNat < fu → JW x 0 0 12 [(0, .ref n0), (1, .int (iI 3)), (2, .int (iI 0)), (3, .int (iI i))] [] [(n0, oX12 th dp my sm st sz mo ms yb hpk pkr rt rk rx hsh si gt va (cn 0) wd wa re ua pkk pxx bp mk bi pl cd rn rch rtn rdp rki rea rby rsh), (my, aI x.g 2 cn), (sm, aI x.g 800 ss), (va, aI x.g 400 v1)] := by
      intro fu
      induction fu with
      | zero => intro i v1 _ hm; exact absurd hm (by omega)
      | succ fu ih =>
        intro i v1 ⟨hi1, hi2, hi3⟩ hm12
        have ih12 := ih
        clear ih
        refine j_iload_n jb dX12_valuesOf_12 3 rfl ?_
        refine j_aload_n jb dX12_valuesOf_13 0 rfl ?_
        refine j_get jb f_X12_92 dX12_valuesOf_14 0 rfl rfl ?_
        refine j_icmp_ge (tgt := 163) jb dX12_valuesOf_17 (by decide) (by omega) (by omega) (fun c_17 => ?_) (fun c_17 => ?_)
        · skip
          have hen : eqOn v1 (selR ss (fun i => ss (400 + i)) jt) 0 (cn 0) := fun j a b => hi3 j a (by omega)
          refine j_iload_n jb dX12_valuesOf_163 1 rfl ?_
          refine j_iconst jb dX12_valuesOf_164 ?_
          refine j_icmp_ne (tgt := 173) jb dX12_valuesOf_165 (by decide) (by decide) (by decide) (fun _ => ?_) (fun h => absurd h (by decide))
          refine j_iload_n jb dX12_valuesOf_173 1 rfl ?_
          refine j_iconst jb dX12_valuesOf_174 ?_
          refine j_icmp_ne (tgt := 182) jb dX12_valuesOf_175 (by decide) (by decide) (by decide) (fun _ => ?_) (fun h => absurd h (by decide))
          refine j_iload_n jb dX12_valuesOf_182 1 rfl ?_
          refine j_iconst jb dX12_valuesOf_183 ?_
          refine j_icmp_ne (tgt := 196) jb dX12_valuesOf_184 (by decide) (by decide) (by decide) (fun h => absurd h (by decide)) (fun _ => ?_)
          refine j_iload_n jb dX12_valuesOf_187 2 rfl ?_
          refine j_iconst jb dX12_valuesOf_188 ?_
          refine j_icmp_ne (tgt := 196) jb dX12_valuesOf_189 (by decide) (by decide) (by decide) (fun _ => ?_) (fun h => absurd h (by decide))
          refine j_iconst jb dX12_valuesOf_196 ?_
          refine j_istore_n (lv' := [(3, .int (iI 0)), (0, .ref n0), (1, .int (iI 3)), (2, .int (iI 0))]) jb dX12_valuesOf_197 rfl (by decide) rfl ?_
          refine j_aload_n jb dX12_valuesOf_198 1 rfl ?_
          refine j_iload_n jb dX12_valuesOf_199 0 rfl ?_
          refine j_if_eq (tgt := 212) jb dX12_valuesOf_200 (by decide) (by decide) (fun _ => ?_) (fun h => absurd h (by decide))
          refine j_aload_n jb dX12_valuesOf_212 1 rfl ?_
          refine j_get jb f_X12_13 dX12_valuesOf_213 0 rfl rfl ?_
          refine j_callV (wr := [(my, aI x.g 2 cn), (sm, aI x.g 800 ss)]) jb k_X12_takeOut i_X12_takeOut s_X12_takeOut l_X12_159 (C_X12_takeOut x.l x.g n0 my sm st yb pkr rt rk rx si gt va re ua mk rki rea rby th dp sz mo ms hpk hsh (cn 0) wd wa pkk pxx bp bi pl cd rn rch rtn rdp rsh dp v1 (by omega) (by omega) (fun j a b => by rw [hen j a b]; exact selR_in h0 h1 j a b)) 0 14 rfl rfl rfl [0, 3] [1, 2] (by decide) rfl rfl (by decide) (by decide) rfl rfl (Nat.le_of_ble_eq_true rfl) (by decide) dX12_valuesOf_216 (fun v w hp => ?_)
          obtain ⟨wa3, wd3, v3, rfl, rfl, h216⟩ := hp
          refine j_norm (lv' := [(3, .int (iI 0)), (0, .ref n0), (1, .int (iI 3)), (2, .int (iI 0))]) (st' := []) (ws' := [(n0, oX12 th dp my sm st sz mo ms yb hpk pkr rt rk rx hsh si gt va (cn 0) wd3 wa3 re ua pkk pxx bp mk bi pl cd rn rch rtn rdp rki rea rby rsh), (my, aI x.g 2 cn), (sm, aI x.g 800 ss), (va, aI x.g 400 v3)]) [0, 1, 2, 3] [2, 0, 1, 3] rfl rfl (by decide) rfl ?_
          refine j_norm (lv' := []) (st' := []) (ws' := [(n0, oX12 th dp my sm st sz mo ms yb hpk pkr rt rk rx hsh si gt va (cn 0) wd3 wa3 re ua pkk pxx bp mk bi pl cd rn rch rtn rdp rki rea rby rsh), (my, aI x.g 2 cn), (sm, aI x.g 800 ss), (va, aI x.g 400 v3)]) [] [0, 1, 2, 3] rfl rfl (by decide) rfl ?_
          exact j_vret jb jr dX12_valuesOf_219 ⟨_, _, _, rfl, rfl, (by rw [← hjt, hrb]; exact ⟨by rw [← orF_cg (cn 0).toNat (fun j a b => hen j a (by omega))]; exact h216.1, h216.2.1, h216.2.2.1, fun j a b => by rw [h216.2.2.2 j a b, hen j a b]; rfl⟩)⟩
        · skip
          refine j_aload_n jb dX12_valuesOf_20 0 rfl ?_
          refine j_get jb f_X12_20 dX12_valuesOf_21 0 rfl rfl ?_
          refine j_iload_n jb dX12_valuesOf_24 3 rfl ?_
          refine j_iald jb dX12_valuesOf_25 2 rfl (by omega) (by decide) ?_
          refine j_istore (lv' := [(4, .int (iI (ss i))), (0, .ref n0), (1, .int (iI 3)), (2, .int (iI 0)), (3, .int (iI i))]) jb dX12_valuesOf_26 (by decide) rfl ?_
          refine j_aload_n jb dX12_valuesOf_28 1 rfl ?_
          refine j_get jb f_X12_20 dX12_valuesOf_29 0 rfl rfl ?_
          refine j_sipush jb dX12_valuesOf_32 (by decide) ?_
          refine j_iload_n jb dX12_valuesOf_35 4 rfl ?_
          refine j_iadd jb dX12_valuesOf_36 ?_
          refine j_iald jb dX12_valuesOf_37 2 rfl (by omega) (by decide) ?_
          refine j_istore (lv' := [(5, .int (iI (ss (400 + i)))), (4, .int (iI (ss i))), (0, .ref n0), (1, .int (iI 3)), (2, .int (iI 0)), (3, .int (iI i))]) jb dX12_valuesOf_38 (by decide) rfl ?_
          refine j_iload_n jb dX12_valuesOf_40 3 rfl ?_
          refine j_iconst jb dX12_valuesOf_41 ?_
          refine j_icmp_ne (tgt := 50) jb dX12_valuesOf_42 (by decide) (by decide) (by decide) (fun _ => ?_) (fun h => absurd h (by decide))
          refine j_iload_n jb dX12_valuesOf_50 3 rfl ?_
          refine j_iconst jb dX12_valuesOf_51 ?_
          refine j_icmp_ne (tgt := 59) jb dX12_valuesOf_52 (by decide) (by decide) (by decide) (fun _ => ?_) (fun h => absurd h (by decide))
          refine j_iload_n jb dX12_valuesOf_59 3 rfl ?_
          refine j_iconst jb dX12_valuesOf_60 ?_
          refine j_icmp_ne (tgt := 73) jb dX12_valuesOf_61 (by decide) (by decide) (by decide) (fun h => absurd h (by decide)) (fun _ => ?_)
          refine j_iload_n jb dX12_valuesOf_64 4 rfl ?_
          refine j_iconst jb dX12_valuesOf_65 ?_
          refine j_icmp_ne (tgt := 73) jb dX12_valuesOf_66 (by decide) (by decide) (by decide) (fun _ => ?_) (fun h => absurd h (by decide))
          refine j_iconst jb dX12_valuesOf_73 ?_
          refine j_istore (lv' := [(6, .int (iI 0)), (5, .int (iI (ss (400 + i)))), (4, .int (iI (ss i))), (0, .ref n0), (1, .int (iI 3)), (2, .int (iI 0)), (3, .int (iI i))]) jb dX12_valuesOf_74 (by decide) rfl ?_
          refine j_iload_n jb dX12_valuesOf_76 4 rfl ?_
          refine j_iconst jb dX12_valuesOf_77 ?_
          refine j_icmp_ne (tgt := 89) jb dX12_valuesOf_78 (by decide) (by decide) (by decide) (fun h => absurd h (by decide)) (fun _ => ?_)
          refine j_iload_n jb dX12_valuesOf_81 5 rfl ?_
          refine j_if_ne (tgt := 89) jb dX12_valuesOf_82 (by decide) (by decide) (fun h => absurd h (by decide)) (fun _ => ?_)
          refine j_iconst jb dX12_valuesOf_85 ?_
          refine j_goto (tgt := 90) jb dX12_valuesOf_86 (by decide) ?_
          refine j_istore (lv' := [(7, .int (iI 1)), (6, .int (iI 0)), (5, .int (iI (ss (400 + i)))), (4, .int (iI (ss i))), (0, .ref n0), (1, .int (iI 3)), (2, .int (iI 0)), (3, .int (iI i))]) jb dX12_valuesOf_90 (by decide) rfl ?_
          refine j_aload_n jb dX12_valuesOf_92 4 rfl ?_
          refine j_get jb f_X12_47 dX12_valuesOf_93 0 rfl rfl ?_
          refine j_iload_n jb dX12_valuesOf_96 7 rfl ?_
          refine j_iload jb dX12_valuesOf_97 1 rfl ?_
          refine j_if_eq (tgt := 110) jb dX12_valuesOf_99 (by decide) (by decide) (fun _ => ?_) (fun h => absurd h (by decide))
          refine j_iload jb dX12_valuesOf_110 0 rfl ?_
          refine j_if_eq (tgt := 125) jb dX12_valuesOf_112 (by decide) (by decide) (fun h => absurd h (by decide)) (fun _ => ?_)
          refine j_iload jb dX12_valuesOf_115 3 rfl ?_
          refine j_iload jb dX12_valuesOf_117 2 rfl ?_
          refine j_iadd jb dX12_valuesOf_119 ?_
          refine j_iconst jb dX12_valuesOf_120 ?_
          refine j_ishr jb dX12_valuesOf_121 (by have := h0 i hi1 (by omega); have := (h1.resolve_left (by omega)) i hi1 (by omega); omega) (by decide) ?_
          refine j_topi ((ss i + ss (400 + i)) / 2) (p1 _) ?_
          refine j_goto (tgt := 156) jb dX12_valuesOf_122 (by decide) ?_
          refine j_iast (ws' := [(n0, oX12 th dp my sm st sz mo ms yb hpk pkr rt rk rx hsh si gt va (cn 0) wd wa re ua pkk pxx bp mk bi pl cd rn rch rtn rdp rki rea rby rsh), (my, aI x.g 2 cn), (sm, aI x.g 800 ss), (va, aI x.g 400 (zup v1 i ((ss i + ss (400 + i)) / 2)))]) jb dX12_valuesOf_156 3 rfl (by omega) (by decide) rfl ?_
          refine j_iinc (lv' := [(3, .int (iI (i + 1))), (7, .int (iI 1)), (6, .int (iI 0)), (5, .int (iI (ss (400 + i)))), (4, .int (iI (ss i))), (0, .ref n0), (1, .int (iI 3)), (2, .int (iI 0))]) jb dX12_valuesOf_157 7 rfl (by decide) rfl ?_
          refine j_goto (tgt := 12) jb dX12_valuesOf_160 (by decide) ?_
          refine j_norm (lv' := [(0, .ref n0), (1, .int (iI 3)), (2, .int (iI 0)), (3, .int (iI (i + 1)))]) (st' := []) (ws' := [(n0, oX12 th dp my sm st sz mo ms yb hpk pkr rt rk rx hsh si gt va (cn 0) wd wa re ua pkk pxx bp mk bi pl cd rn rch rtn rdp rki rea rby rsh), (my, aI x.g 2 cn), (sm, aI x.g 800 ss), (va, aI x.g 400 (zup v1 i ((ss i + ss (400 + i)) / 2)))]) [5, 6, 7, 0] [0, 1, 2, 3] rfl rfl (by decide) rfl ?_
          exact ih12 (i + 1) (zup v1 i ((ss i + ss (400 + i)) / 2)) ⟨by omega, by omega, fun j a b => by (by_cases e : j = i); { rw [e, zup_s, ejt]; rfl }; { rw [zup_n e]; exact hi3 j a (by omega) }⟩ (by omega)
    refine j_norm (lv' := [(0, .ref n0), (1, .int (iI 3)), (2, .int (iI 0)), (3, .int (iI 0))]) (st' := []) (ws' := [(n0, oX12 th dp my sm st sz mo ms yb hpk pkr rt rk rx hsh si gt va (cn 0) wd wa re ua pkk pxx bp mk bi pl cd rn rch rtn rdp rki rea rby rsh), (my, aI x.g 2 cn), (sm, aI x.g 800 ss), (va, aI x.g 400 val)]) [1, 2, 3, 0] [0, 1, 2, 3] rfl rfl (by decide) rfl ?_
    exact L12 _ 0 val ⟨by decide, by omega, fun j a b => by omega⟩ (Nat.lt_succ_self _)
  · skip
    obtain ⟨e1, e2⟩ := e
    subst e1; subst e2
    have ejt : jt = 2 := hjt.trans (by decide)
    have h1 : jt = 0 ∨ ∀ i, 0 ≤ i → i < cn 0 → -32768 ≤ ss (400 + i) ∧ ss (400 + i) < 32768 := by (rcases h1 with z | z; { left; rw [hjt]; exact absurd z (by decide) }; { exact Or.inr z })
    have hrb : rbJ dp jt = dp + 1 := by (rw [ejt]; rfl)
    refine j_aload_n jb dX12_valuesOf_0 0 rfl ?_
    refine j_aload_n jb dX12_valuesOf_1 0 rfl ?_
    refine j_get jb f_X12_16 dX12_valuesOf_2 0 rfl rfl ?_
    refine j_iconst jb dX12_valuesOf_5 ?_
    refine j_iald jb dX12_valuesOf_6 1 rfl (by omega) (by decide) ?_
    refine j_put (ws' := [(n0, oX12 th dp my sm st sz mo ms yb hpk pkr rt rk rx hsh si gt va (cn 0) wd wa re ua pkk pxx bp mk bi pl cd rn rch rtn rdp rki rea rby rsh), (my, aI x.g 2 cn), (sm, aI x.g 800 ss), (va, aI x.g 400 val)]) jb f_X12_92 w_X12_18 rfl dX12_valuesOf_7 0 rfl rfl rfl (Nat.le_of_ble_eq_true rfl) rfl ?_
    refine j_iconst jb dX12_valuesOf_10 ?_
    refine j_istore_n (lv' := [(3, .int (iI 0)), (0, .ref n0), (1, .int (iI 3)), (2, .int (iI 1))]) jb dX12_valuesOf_11 rfl (by decide) rfl ?_
    have L12 : ∀ (fu : Nat) (i : Int) (v1 : Int → Int), (0 ≤ i ∧ i ≤ cn 0 ∧ ∀ j, 0 ≤ j → j < i → v1 j = (selR ss (fun i => ss (400 + i)) jt) j) → (cn 0 - i).toNat < fu → JW x 0 0 12 [(0, .ref n0), (1, .int (iI 3)), (2, .int (iI 1)), (3, .int (iI i))] [] [(n0, oX12 th dp my sm st sz mo ms yb hpk pkr rt rk rx hsh si gt va (cn 0) wd wa re ua pkk pxx bp mk bi pl cd rn rch rtn rdp rki rea rby rsh), (my, aI x.g 2 cn), (sm, aI x.g 800 ss), (va, aI x.g 400 v1)] := by
      intro fu
      induction fu with
      | zero => intro i v1 _ hm; exact absurd hm (by omega)
      | succ fu ih =>
        intro i v1 ⟨hi1, hi2, hi3⟩ hm12
        have ih12 := ih
        clear ih
        refine j_iload_n jb dX12_valuesOf_12 3 rfl ?_
        refine j_aload_n jb dX12_valuesOf_13 0 rfl ?_
        refine j_get jb f_X12_92 dX12_valuesOf_14 0 rfl rfl ?_
        refine j_icmp_ge (tgt := 163) jb dX12_valuesOf_17 (by decide) (by omega) (by omega) (fun c_17 => ?_) (fun c_17 => ?_)
        · skip
          have hen : eqOn v1 (selR ss (fun i => ss (400 + i)) jt) 0 (cn 0) := fun j a b => hi3 j a (by omega)
          refine j_iload_n jb dX12_valuesOf_163 1 rfl ?_
          refine j_iconst jb dX12_valuesOf_164 ?_
          refine j_icmp_ne (tgt := 173) jb dX12_valuesOf_165 (by decide) (by decide) (by decide) (fun _ => ?_) (fun h => absurd h (by decide))
          refine j_iload_n jb dX12_valuesOf_173 1 rfl ?_
          refine j_iconst jb dX12_valuesOf_174 ?_
          refine j_icmp_ne (tgt := 182) jb dX12_valuesOf_175 (by decide) (by decide) (by decide) (fun _ => ?_) (fun h => absurd h (by decide))
          refine j_iload_n jb dX12_valuesOf_182 1 rfl ?_
          refine j_iconst jb dX12_valuesOf_183 ?_
          refine j_icmp_ne (tgt := 196) jb dX12_valuesOf_184 (by decide) (by decide) (by decide) (fun h => absurd h (by decide)) (fun _ => ?_)
          refine j_iload_n jb dX12_valuesOf_187 2 rfl ?_
          refine j_iconst jb dX12_valuesOf_188 ?_
          refine j_icmp_ne (tgt := 196) jb dX12_valuesOf_189 (by decide) (by decide) (by decide) (fun h => absurd h (by decide)) (fun _ => ?_)
          refine j_iconst jb dX12_valuesOf_192 ?_
          refine j_goto (tgt := 197) jb dX12_valuesOf_193 (by decide) ?_
          refine j_istore_n (lv' := [(3, .int (iI 1)), (0, .ref n0), (1, .int (iI 3)), (2, .int (iI 1))]) jb dX12_valuesOf_197 rfl (by decide) rfl ?_
          refine j_aload_n jb dX12_valuesOf_198 1 rfl ?_
          refine j_iload_n jb dX12_valuesOf_199 0 rfl ?_
          refine j_if_eq (tgt := 212) jb dX12_valuesOf_200 (by decide) (by decide) (fun h => absurd h (by decide)) (fun _ => ?_)
          refine j_aload_n jb dX12_valuesOf_203 1 rfl ?_
          refine j_get jb f_X12_13 dX12_valuesOf_204 0 rfl rfl ?_
          refine j_iconst jb dX12_valuesOf_207 ?_
          refine j_iadd jb dX12_valuesOf_208 ?_
          refine j_goto (tgt := 216) jb dX12_valuesOf_209 (by decide) ?_
          refine j_callV (wr := [(my, aI x.g 2 cn), (sm, aI x.g 800 ss)]) jb k_X12_takeOut i_X12_takeOut s_X12_takeOut l_X12_159 (C_X12_takeOut x.l x.g n0 my sm st yb pkr rt rk rx si gt va re ua mk rki rea rby th dp sz mo ms hpk hsh (cn 0) wd wa pkk pxx bp bi pl cd rn rch rtn rdp rsh (dp + 1) v1 (by omega) (by omega) (fun j a b => by rw [hen j a b]; exact selR_in h0 h1 j a b)) 0 14 rfl rfl rfl [0, 3] [1, 2] (by decide) rfl rfl (by decide) (by decide) rfl rfl (Nat.le_of_ble_eq_true rfl) (by decide) dX12_valuesOf_216 (fun v w hp => ?_)
          obtain ⟨wa3, wd3, v3, rfl, rfl, h216⟩ := hp
          refine j_norm (lv' := [(3, .int (iI 1)), (0, .ref n0), (1, .int (iI 3)), (2, .int (iI 1))]) (st' := []) (ws' := [(n0, oX12 th dp my sm st sz mo ms yb hpk pkr rt rk rx hsh si gt va (cn 0) wd3 wa3 re ua pkk pxx bp mk bi pl cd rn rch rtn rdp rki rea rby rsh), (my, aI x.g 2 cn), (sm, aI x.g 800 ss), (va, aI x.g 400 v3)]) [0, 1, 2, 3] [2, 0, 1, 3] rfl rfl (by decide) rfl ?_
          refine j_norm (lv' := []) (st' := []) (ws' := [(n0, oX12 th dp my sm st sz mo ms yb hpk pkr rt rk rx hsh si gt va (cn 0) wd3 wa3 re ua pkk pxx bp mk bi pl cd rn rch rtn rdp rki rea rby rsh), (my, aI x.g 2 cn), (sm, aI x.g 800 ss), (va, aI x.g 400 v3)]) [] [0, 1, 2, 3] rfl rfl (by decide) rfl ?_
          exact j_vret jb jr dX12_valuesOf_219 ⟨_, _, _, rfl, rfl, (by rw [← hjt, hrb]; exact ⟨by rw [← orF_cg (cn 0).toNat (fun j a b => hen j a (by omega))]; exact h216.1, h216.2.1, h216.2.2.1, fun j a b => by rw [h216.2.2.2 j a b, hen j a b]; rfl⟩)⟩
        · skip
          refine j_aload_n jb dX12_valuesOf_20 0 rfl ?_
          refine j_get jb f_X12_20 dX12_valuesOf_21 0 rfl rfl ?_
          refine j_iload_n jb dX12_valuesOf_24 3 rfl ?_
          refine j_iald jb dX12_valuesOf_25 2 rfl (by omega) (by decide) ?_
          refine j_istore (lv' := [(4, .int (iI (ss i))), (0, .ref n0), (1, .int (iI 3)), (2, .int (iI 1)), (3, .int (iI i))]) jb dX12_valuesOf_26 (by decide) rfl ?_
          refine j_aload_n jb dX12_valuesOf_28 1 rfl ?_
          refine j_get jb f_X12_20 dX12_valuesOf_29 0 rfl rfl ?_
          refine j_sipush jb dX12_valuesOf_32 (by decide) ?_
          refine j_iload_n jb dX12_valuesOf_35 4 rfl ?_
          refine j_iadd jb dX12_valuesOf_36 ?_
          refine j_iald jb dX12_valuesOf_37 2 rfl (by omega) (by decide) ?_
          refine j_istore (lv' := [(5, .int (iI (ss (400 + i)))), (4, .int (iI (ss i))), (0, .ref n0), (1, .int (iI 3)), (2, .int (iI 1)), (3, .int (iI i))]) jb dX12_valuesOf_38 (by decide) rfl ?_
          refine j_iload_n jb dX12_valuesOf_40 3 rfl ?_
          refine j_iconst jb dX12_valuesOf_41 ?_
          refine j_icmp_ne (tgt := 50) jb dX12_valuesOf_42 (by decide) (by decide) (by decide) (fun _ => ?_) (fun h => absurd h (by decide))
          refine j_iload_n jb dX12_valuesOf_50 3 rfl ?_
          refine j_iconst jb dX12_valuesOf_51 ?_
          refine j_icmp_ne (tgt := 59) jb dX12_valuesOf_52 (by decide) (by decide) (by decide) (fun _ => ?_) (fun h => absurd h (by decide))
          refine j_iload_n jb dX12_valuesOf_59 3 rfl ?_
          refine j_iconst jb dX12_valuesOf_60 ?_
          refine j_icmp_ne (tgt := 73) jb dX12_valuesOf_61 (by decide) (by decide) (by decide) (fun h => absurd h (by decide)) (fun _ => ?_)
          refine j_iload_n jb dX12_valuesOf_64 4 rfl ?_
          refine j_iconst jb dX12_valuesOf_65 ?_
          refine j_icmp_ne (tgt := 73) jb dX12_valuesOf_66 (by decide) (by decide) (by decide) (fun h => absurd h (by decide)) (fun _ => ?_)
          refine j_iconst jb dX12_valuesOf_69 ?_
          refine j_goto (tgt := 74) jb dX12_valuesOf_70 (by decide) ?_
          refine j_istore (lv' := [(6, .int (iI 1)), (5, .int (iI (ss (400 + i)))), (4, .int (iI (ss i))), (0, .ref n0), (1, .int (iI 3)), (2, .int (iI 1)), (3, .int (iI i))]) jb dX12_valuesOf_74 (by decide) rfl ?_
          refine j_iload_n jb dX12_valuesOf_76 4 rfl ?_
          refine j_iconst jb dX12_valuesOf_77 ?_
          refine j_icmp_ne (tgt := 89) jb dX12_valuesOf_78 (by decide) (by decide) (by decide) (fun h => absurd h (by decide)) (fun _ => ?_)
          refine j_iload_n jb dX12_valuesOf_81 5 rfl ?_
          refine j_if_ne (tgt := 89) jb dX12_valuesOf_82 (by decide) (by decide) (fun _ => ?_) (fun h => absurd h (by decide))
          refine j_iconst jb dX12_valuesOf_89 ?_
          refine j_istore (lv' := [(7, .int (iI 0)), (6, .int (iI 1)), (5, .int (iI (ss (400 + i)))), (4, .int (iI (ss i))), (0, .ref n0), (1, .int (iI 3)), (2, .int (iI 1)), (3, .int (iI i))]) jb dX12_valuesOf_90 (by decide) rfl ?_
          refine j_aload_n jb dX12_valuesOf_92 4 rfl ?_
          refine j_get jb f_X12_47 dX12_valuesOf_93 0 rfl rfl ?_
          refine j_iload_n jb dX12_valuesOf_96 7 rfl ?_
          refine j_iload jb dX12_valuesOf_97 1 rfl ?_
          refine j_if_eq (tgt := 110) jb dX12_valuesOf_99 (by decide) (by decide) (fun h => absurd h (by decide)) (fun _ => ?_)
          refine j_iload jb dX12_valuesOf_102 3 rfl ?_
          refine j_iload jb dX12_valuesOf_104 2 rfl ?_
          refine j_isub jb dX12_valuesOf_106 ?_
          refine j_goto (tgt := 156) jb dX12_valuesOf_107 (by decide) ?_
          refine j_iast (ws' := [(n0, oX12 th dp my sm st sz mo ms yb hpk pkr rt rk rx hsh si gt va (cn 0) wd wa re ua pkk pxx bp mk bi pl cd rn rch rtn rdp rki rea rby rsh), (my, aI x.g 2 cn), (sm, aI x.g 800 ss), (va, aI x.g 400 (zup v1 i ((ss i) - (ss (400 + i)))))]) jb dX12_valuesOf_156 3 rfl (by omega) (by decide) rfl ?_
          refine j_iinc (lv' := [(3, .int (iI (i + 1))), (7, .int (iI 0)), (6, .int (iI 1)), (5, .int (iI (ss (400 + i)))), (4, .int (iI (ss i))), (0, .ref n0), (1, .int (iI 3)), (2, .int (iI 1))]) jb dX12_valuesOf_157 7 rfl (by decide) rfl ?_
          refine j_goto (tgt := 12) jb dX12_valuesOf_160 (by decide) ?_
          refine j_norm (lv' := [(0, .ref n0), (1, .int (iI 3)), (2, .int (iI 1)), (3, .int (iI (i + 1)))]) (st' := []) (ws' := [(n0, oX12 th dp my sm st sz mo ms yb hpk pkr rt rk rx hsh si gt va (cn 0) wd wa re ua pkk pxx bp mk bi pl cd rn rch rtn rdp rki rea rby rsh), (my, aI x.g 2 cn), (sm, aI x.g 800 ss), (va, aI x.g 400 (zup v1 i ((ss i) - (ss (400 + i)))))]) [5, 6, 7, 0] [0, 1, 2, 3] rfl rfl (by decide) rfl ?_
          exact ih12 (i + 1) (zup v1 i ((ss i) - (ss (400 + i)))) ⟨by omega, by omega, fun j a b => by (by_cases e : j = i); { rw [e, zup_s, ejt]; rfl }; { rw [zup_n e]; exact hi3 j a (by omega) }⟩ (by omega)
    refine j_norm (lv' := [(0, .ref n0), (1, .int (iI 3)), (2, .int (iI 1)), (3, .int (iI 0))]) (st' := []) (ws' := [(n0, oX12 th dp my sm st sz mo ms yb hpk pkr rt rk rx hsh si gt va (cn 0) wd wa re ua pkk pxx bp mk bi pl cd rn rch rtn rdp rki rea rby rsh), (my, aI x.g 2 cn), (sm, aI x.g 800 ss), (va, aI x.g 400 val)]) [1, 2, 3, 0] [0, 1, 2, 3] rfl rfl (by decide) rfl ?_
    exact L12 _ 0 val ⟨by decide, by omega, fun j a b => by omega⟩ (Nat.lt_succ_self _)

set_option maxHeartbeats 4000000 in
set_option maxRecDepth 100000 in
theorem C_X12_putRests (l : Launch) (g : GG) (n0 my sm st yb pkr rt rk rx si gt va re ua mk rki rea rby : Nat) (th dp sz mo ms hpk hsh vn wd wa pkk pxx bp bi pl cd rn rch rtn rdp rsh : Int) (q o : Int) (rs U M tt kk xk K X : Int → Int) (hq : 0 ≤ q ∧ q ≤ 1) (hn : 1 ≤ vn ∧ vn ≤ 400) (ho : 0 ≤ o ∧ o ≤ 4) (hp4 : 0 ≤ bp ∧ bp ≤ 4) (hff : o ≤ (vn / 2 ^ bp.toNat) ∧ vn = 2 ^ bp.toNat * (vn / 2 ^ bp.toNat)) (hU : uIn U o vn) (hrs : ∀ i, o ≤ i → i < vn → U i = fld (rs i)) (hkx : ∀ j, 0 ≤ j → j < 2 ^ bp.toNat → K j = (pS U o (vn / 2 ^ bp.toNat) j).2.1 ∧ X j = (pS U o (vn / 2 ^ bp.toNat) j).2.2) (hb : 0 ≤ bi ∧ bi + 3 + (partsB U o (vn / 2 ^ bp.toNat) K X (2 ^ bp.toNat)).length ≤ 32000) (hM : ∀ j, 0 ≤ j → j < 4000 → 0 ≤ M j ∧ M j < 256) (ht : tl M bi) : Ctr l g yX12_putRests cX12_putRests 13 none 3 90 0 0 [.ref n0, .int (iI q), .int (iI o)] [(n0, oX12 th dp my sm st sz mo ms yb hpk pkr rt rk rx hsh si gt va vn wd wa re ua pkk pxx bp mk bi pl cd rn rch rtn rdp rki rea rby rsh), (re, aL g 400 rs), (ua, aL g 400 U), (mk, aI g 4000 M), (rt, aI g 8 tt), (rk, aI g 32 kk), (rx, aI g 32 xk)] (fun vv ww => ∃ (bi2 pk2 px2 : Int) (M2 kk2 xk2 : Int → Int), vv = none ∧ ww = [(n0, oX12 th dp my sm st sz mo ms yb hpk pkr rt rk rx hsh si gt va vn wd wa re ua pk2 px2 bp mk bi2 pl cd rn rch rtn rdp rki rea rby rsh), (re, aL g 400 rs), (ua, aL g 400 U), (mk, aI g 4000 M2), (rt, aI g 8 (zup tt (4 * q + 3) bp)), (rk, aI g 32 kk2), (rx, aI g 32 xk2)] ∧ bi2 = bi + 3 + (partsB U o (vn / 2 ^ bp.toNat) K X (2 ^ bp.toNat)).length ∧ wrote 4000 M bi (nb bp 3 3 ++ (partsB U o (vn / 2 ^ bp.toNat) K X (2 ^ bp.toNat))) M2 ∧ tl M2 bi2 ∧ (∀ j, 0 ≤ j → j < 2 ^ bp.toNat → kk2 (16 * q + j) = K j ∧ xk2 (16 * q + j) = X j) ∧ (∀ i, (i < 16 * q ∨ 16 * q + 16 ≤ i) → kk2 i = kk i ∧ xk2 i = xk i)) := by
  refine Ctr.of [(0, .ref n0), (1, .int (iI q)), (2, .int (iI o))] (by decide) (Nat.le_of_ble_eq_true rfl) rfl ?_
  intro x hxl hxg jb jr hin
  subst hxl; subst hxg
  have q1 := pw_pos bp
  have q2 : (2 : Int) ^ bp.toNat ≤ 16 := by (have := pw_le (k := bp) 4 hp4.2; rw [show (2 : Int) ^ 4 = 16 by decide] at this; exact this)
  have he0 : 0 ≤ (vn / 2 ^ bp.toNat) := by omega
  have hpt : ((2 : Int) ^ bp.toNat).toNat = 2 ^ bp.toNat := pw_nat rfl
  have hoe : 0 ≤ o ∧ o ≤ (vn / 2 ^ bp.toNat) := ⟨ho.1, hff.1⟩
  refine j_aload_n jb dX12_putRests_0 0 rfl ?_
  refine j_get jb f_X12_136 dX12_putRests_1 0 rfl rfl ?_
  refine j_istore_n (lv' := [(3, .int (iI bp)), (0, .ref n0), (1, .int (iI q)), (2, .int (iI o))]) jb dX12_putRests_4 rfl (by decide) rfl ?_
  refine j_aload_n jb dX12_putRests_5 1 rfl ?_
  refine j_get jb f_X12_32 dX12_putRests_6 0 rfl rfl ?_
  refine j_iconst jb dX12_putRests_9 ?_
  refine j_iload_n jb dX12_putRests_10 2 rfl ?_
  refine j_imul jb dX12_putRests_11 ?_
  refine j_iconst jb dX12_putRests_12 ?_
  refine j_iadd jb dX12_putRests_13 ?_
  refine j_iload_n jb dX12_putRests_14 0 rfl ?_
  refine j_iast (ws' := [(n0, oX12 th dp my sm st sz mo ms yb hpk pkr rt rk rx hsh si gt va vn wd wa re ua pkk pxx bp mk bi pl cd rn rch rtn rdp rki rea rby rsh), (re, aL x.g 400 rs), (ua, aL x.g 400 U), (mk, aI x.g 4000 M), (rt, aI x.g 8 (zup tt ((4 * q) + 3) bp)), (rk, aI x.g 32 kk), (rx, aI x.g 32 xk)]) jb dX12_putRests_15 4 rfl (by omega) (by decide) rfl ?_
  refine j_aload_n jb dX12_putRests_16 1 rfl ?_
  refine j_iload_n jb dX12_putRests_17 0 rfl ?_
  refine j_i2l jb dX12_putRests_18 (by omega) ?_
  refine j_iconst jb dX12_putRests_19 ?_
  refine j_callV (wr := [(re, aL x.g 400 rs), (ua, aL x.g 400 U), (rt, aI x.g 8 (zup tt ((4 * q) + 3) bp)), (rk, aI x.g 32 kk), (rx, aI x.g 32 xk)]) jb k_X12_put i_X12_put s_X12_put l_X12_166 (C_X12_put x.l x.g n0 my sm st yb pkr rt rk rx si gt va re ua mk rki rea rby th dp sz mo ms hpk hsh vn wd wa pkk pxx bp bi pl cd rn rch rtn rdp rsh bp 3 M (by omega) (by omega) (by omega) hM ht) 0 14 rfl rfl rfl [0, 3] [1, 2, 4, 5, 6] (by decide) rfl rfl (by decide) (by decide) rfl rfl (Nat.le_of_ble_eq_true rfl) (by decide) dX12_putRests_20 (fun v w hp => ?_)
  obtain ⟨b20, M20, rfl, rfl, h20⟩ := hp
  refine j_norm (lv' := [(3, .int (iI bp)), (0, .ref n0), (1, .int (iI q)), (2, .int (iI o))]) (st' := []) (ws' := [(n0, oX12 th dp my sm st sz mo ms yb hpk pkr rt rk rx hsh si gt va vn wd wa re ua pkk pxx bp mk b20 pl cd rn rch rtn rdp rki rea rby rsh), (re, aL x.g 400 rs), (ua, aL x.g 400 U), (mk, aI x.g 4000 M20), (rt, aI x.g 8 (zup tt ((4 * q) + 3) bp)), (rk, aI x.g 32 kk), (rx, aI x.g 32 xk)]) [0, 1, 2, 3] [5, 0, 1, 6, 2, 3, 4] rfl rfl (by decide) rfl ?_
  refine j_aload_n jb dX12_putRests_23 1 rfl ?_
  refine j_get jb f_X12_92 dX12_putRests_24 0 rfl rfl ?_
  refine j_iload_n jb dX12_putRests_27 0 rfl ?_
  refine j_ishr jb dX12_putRests_28 (by omega) (by omega) ?_
  refine j_istore (lv' := [(4, .int (iI (vn / 2 ^ bp.toNat))), (3, .int (iI bp)), (0, .ref n0), (1, .int (iI q)), (2, .int (iI o))]) jb dX12_putRests_29 (by decide) rfl ?_
  refine j_iconst jb dX12_putRests_31 ?_
  refine j_istore (lv' := [(5, .int (iI 0)), (4, .int (iI (vn / 2 ^ bp.toNat))), (3, .int (iI bp)), (0, .ref n0), (1, .int (iI q)), (2, .int (iI o))]) jb dX12_putRests_32 (by decide) rfl ?_
  have L34 : ∀ (fu : Nat) (j q3 pk3 px3 : Int) (M1 k1 x1 : Int → Int), (0 ≤ j ∧ j ≤ 2 ^ bp.toNat ∧ q3 = b20 + (partsB U o (vn / 2 ^ bp.toNat) K X j.toNat).length ∧ wrote 4000 M20 b20 (partsB U o (vn / 2 ^ bp.toNat) K X j.toNat) M1 ∧ tl M1 q3 ∧ (∀ t, 0 ≤ t → t < j → k1 (16 * q + t) = K t ∧ x1 (16 * q + t) = X t) ∧ (∀ i, (i < 16 * q ∨ 16 * q + 16 ≤ i) → k1 i = kk i ∧ x1 i = xk i)) → (2 ^ bp.toNat - j).toNat < fu → JW x 0 0 34 [(0, .ref n0), (1, .int (iI q)), (2, .int (iI o)), (3, .int (iI bp)), (4, .int (iI (vn / 2 ^ bp.toNat))), (5, .int (iI j))] [] [(n0, oX12 th dp my sm st sz mo ms yb hpk pkr rt rk rx hsh si gt va vn wd wa re ua pk3 px3 bp mk q3 pl cd rn rch rtn rdp rki rea rby rsh), (re, aL x.g 400 rs), (ua, aL x.g 400 U), (mk, aI x.g 4000 M1), (rt, aI x.g 8 (zup tt ((4 * q) + 3) bp)), (rk, aI x.g 32 k1), (rx, aI x.g 32 x1)] := by
    intro fu
    induction fu with
    | zero => intro j q3 pk3 px3 M1 k1 x1 _ hm; exact absurd hm (by omega)
    | succ fu ih =>
      intro j q3 pk3 px3 M1 k1 x1 ⟨hj1, hj2, hj3, hj4, hj5, hj6, hj7⟩ hm34
      have ih34 := ih
      clear ih
      refine j_iload jb dX12_putRests_34 5 rfl ?_
      refine j_iconst jb dX12_putRests_36 ?_
      refine j_iload_n jb dX12_putRests_37 3 rfl ?_
      refine j_ishl jb dX12_putRests_38 (by omega) ?_
      refine j_icmp_ge (tgt := 245) jb dX12_putRests_39 (by decide) (by omega) (by omega) (fun c_39 => ?_) (fun c_39 => ?_)
      · skip
        refine j_norm (lv' := []) (st' := []) (ws' := [(n0, oX12 th dp my sm st sz mo ms yb hpk pkr rt rk rx hsh si gt va vn wd wa re ua pk3 px3 bp mk q3 pl cd rn rch rtn rdp rki rea rby rsh), (re, aL x.g 400 rs), (ua, aL x.g 400 U), (mk, aI x.g 4000 M1), (rt, aI x.g 8 (zup tt ((4 * q) + 3) bp)), (rk, aI x.g 32 k1), (rx, aI x.g 32 x1)]) [] [0, 1, 2, 3, 4, 5, 6] rfl rfl (by decide) rfl ?_
        exact j_vret jb jr dX12_putRests_245 ⟨_, _, _, _, _, _, rfl, rfl, (by have e2 : j.toNat = 2 ^ bp.toNat := (by rw [← hpt]; congr 1; omega); rw [e2] at hj3 hj4; exact ⟨by omega, wrote_app h20.2.1 hj4 hb.1 (by rw [nb_len]; omega), hj5, fun t a b => hj6 t a (by omega), hj7⟩)⟩
      · skip
        refine j_iload jb dX12_putRests_42 5 rfl ?_
        have hjp : j < 2 ^ bp.toNat := by omega
        have hkj := hkx j hj1 hjp
        have hrm := partsB_room (U := U) (o := o) (each := (vn / 2 ^ bp.toNat)) (K := K) (X := X) hj1 hjp
        rw [hpt] at hrm
        have hpl := part_len hn.2 hoe hff.2 ⟨hj1, hjp⟩ hU hkj.1 hkj.2
        have J56 : ∀ (fr : Int), fr = pst o (vn / 2 ^ bp.toNat) j → JW x 0 0 56 [(0, .ref n0), (1, .int (iI q)), (2, .int (iI o)), (3, .int (iI bp)), (4, .int (iI (vn / 2 ^ bp.toNat))), (5, .int (iI j))] [.int (iI fr)] [(n0, oX12 th dp my sm st sz mo ms yb hpk pkr rt rk rx hsh si gt va vn wd wa re ua pk3 px3 bp mk q3 pl cd rn rch rtn rdp rki rea rby rsh), (re, aL x.g 400 rs), (ua, aL x.g 400 U), (mk, aI x.g 4000 M1), (rt, aI x.g 8 (zup tt ((4 * q) + 3) bp)), (rk, aI x.g 32 k1), (rx, aI x.g 32 x1)] := by
          intro fr hfr
          have hpr := prange (n := vn) (o := o) (each := (vn / 2 ^ bp.toNat)) (c := 2 ^ bp.toNat) (j := j) hoe hff.2 ⟨hj1, hjp⟩
          have hpe := pend o (vn / 2 ^ bp.toNat) j
          have htf : ((j + 1) * (vn / 2 ^ bp.toNat) - fr).toNat = (pln o (vn / 2 ^ bp.toNat) j).toNat := by (rw [hfr, ← hpe]; congr 1; omega)
          refine j_istore (lv' := [(6, .int (iI fr)), (0, .ref n0), (1, .int (iI q)), (2, .int (iI o)), (3, .int (iI bp)), (4, .int (iI (vn / 2 ^ bp.toNat))), (5, .int (iI j))]) jb dX12_putRests_56 (by decide) rfl ?_
          refine j_iload jb dX12_putRests_58 6 rfl ?_
          refine j_iconst jb dX12_putRests_60 ?_
          refine j_iadd jb dX12_putRests_61 ?_
          refine j_iload jb dX12_putRests_62 5 rfl ?_
          refine j_imul jb dX12_putRests_64 ?_
          refine j_istore (lv' := [(7, .int (iI ((j + 1) * (vn / 2 ^ bp.toNat)))), (6, .int (iI fr)), (0, .ref n0), (1, .int (iI q)), (2, .int (iI o)), (3, .int (iI bp)), (4, .int (iI (vn / 2 ^ bp.toNat))), (5, .int (iI j))]) jb dX12_putRests_65 (by decide) rfl ?_
          refine j_aload_n jb dX12_putRests_67 2 rfl ?_
          refine j_iload jb dX12_putRests_68 1 rfl ?_
          refine j_iload jb dX12_putRests_70 0 rfl ?_
          refine j_callV (wr := [(mk, aI x.g 4000 M1), (rt, aI x.g 8 (zup tt ((4 * q) + 3) bp)), (rk, aI x.g 32 k1), (rx, aI x.g 32 x1)]) jb k_X12_partBits i_X12_partBits s_X12_partBits l_X12_133 (C_X12_partBits x.l x.g n0 my sm st yb pkr rt rk rx si gt va re ua mk rki rea rby th dp sz mo ms hpk hsh vn wd wa pk3 px3 bp q3 pl cd rn rch rtn rdp rsh fr ((j + 1) * (vn / 2 ^ bp.toNat)) rs U (by omega) (fun i a b => hU i (by omega) (by omega)) (fun i a b => hrs i (by omega) (by omega))) 0 14 rfl rfl rfl [0, 1, 2] [3, 4, 5, 6] (by decide) rfl rfl (by decide) (by decide) rfl rfl (Nat.le_of_ble_eq_true rfl) (by decide) dX12_putRests_72 (fun v w hp => ?_)
          obtain ⟨r4, pk4, px4, rfl, rfl, h72⟩ := hp
          refine j_norm (lv' := [(7, .int (iI ((j + 1) * (vn / 2 ^ bp.toNat)))), (6, .int (iI fr)), (0, .ref n0), (1, .int (iI q)), (2, .int (iI o)), (3, .int (iI bp)), (4, .int (iI (vn / 2 ^ bp.toNat))), (5, .int (iI j))]) (st' := [.long (lI r4)]) (ws' := [(n0, oX12 th dp my sm st sz mo ms yb hpk pkr rt rk rx hsh si gt va vn wd wa re ua pk4 px4 bp mk q3 pl cd rn rch rtn rdp rki rea rby rsh), (re, aL x.g 400 rs), (ua, aL x.g 400 U), (mk, aI x.g 4000 M1), (rt, aI x.g 8 (zup tt ((4 * q) + 3) bp)), (rk, aI x.g 32 k1), (rx, aI x.g 32 x1)]) [0, 1, 2, 3, 4, 5, 6, 7] [4, 5, 6, 0, 1, 2, 3] rfl rfl (by decide) rfl ?_
          have e9 : (j + 1) * (vn / 2 ^ bp.toNat) - fr = pln o (vn / 2 ^ bp.toNat) j := by omega
          have hps : r4 = (pS U o (vn / 2 ^ bp.toNat) j).1 ∧ pk4 = K j ∧ px4 = X j := by (have z := h72; rw [e9, hfr] at z; exact ⟨z.1, z.2.1.trans hkj.1.symm, z.2.2.1.trans hkj.2.symm⟩)
          have hk15 : (0 ≤ pk4 ∧ pk4 ≤ 15) ∧ (pk4 = 15 → 0 ≤ px4 ∧ px4 ≤ 24) := by (rw [hps.2.1, hps.2.2]; exact hpl.2)
          rw [← hps.2.1, ← hps.2.2, ← htf, ← hfr] at hrm
          refine j_lstore (lv' := [(8, .long (lI r4)), (7, .int (iI ((j + 1) * (vn / 2 ^ bp.toNat)))), (6, .int (iI fr)), (0, .ref n0), (1, .int (iI q)), (2, .int (iI o)), (3, .int (iI bp)), (4, .int (iI (vn / 2 ^ bp.toNat))), (5, .int (iI j))]) jb dX12_putRests_75 (by decide) rfl ?_
          refine j_aload_n jb dX12_putRests_77 3 rfl ?_
          refine j_get jb f_X12_35 dX12_putRests_78 0 rfl rfl ?_
          refine j_bipush jb dX12_putRests_81 (by decide) ?_
          refine j_iload_n jb dX12_putRests_83 4 rfl ?_
          refine j_imul jb dX12_putRests_84 ?_
          refine j_iload jb dX12_putRests_85 8 rfl ?_
          refine j_iadd jb dX12_putRests_87 ?_
          refine j_aload_n jb dX12_putRests_88 3 rfl ?_
          refine j_get jb f_X12_117 dX12_putRests_89 0 rfl rfl ?_
          refine j_iast (ws' := [(n0, oX12 th dp my sm st sz mo ms yb hpk pkr rt rk rx hsh si gt va vn wd wa re ua pk4 px4 bp mk q3 pl cd rn rch rtn rdp rki rea rby rsh), (re, aL x.g 400 rs), (ua, aL x.g 400 U), (mk, aI x.g 4000 M1), (rt, aI x.g 8 (zup tt ((4 * q) + 3) bp)), (rk, aI x.g 32 (zup k1 ((16 * q) + j) pk4)), (rx, aI x.g 32 x1)]) jb dX12_putRests_92 5 rfl (by omega) (by decide) rfl ?_
          refine j_aload_n jb dX12_putRests_93 3 rfl ?_
          refine j_get jb f_X12_38 dX12_putRests_94 0 rfl rfl ?_
          refine j_bipush jb dX12_putRests_97 (by decide) ?_
          refine j_iload_n jb dX12_putRests_99 4 rfl ?_
          refine j_imul jb dX12_putRests_100 ?_
          refine j_iload jb dX12_putRests_101 8 rfl ?_
          refine j_iadd jb dX12_putRests_103 ?_
          refine j_aload_n jb dX12_putRests_104 3 rfl ?_
          refine j_get jb f_X12_120 dX12_putRests_105 0 rfl rfl ?_
          refine j_iast (ws' := [(n0, oX12 th dp my sm st sz mo ms yb hpk pkr rt rk rx hsh si gt va vn wd wa re ua pk4 px4 bp mk q3 pl cd rn rch rtn rdp rki rea rby rsh), (re, aL x.g 400 rs), (ua, aL x.g 400 U), (mk, aI x.g 4000 M1), (rt, aI x.g 8 (zup tt ((4 * q) + 3) bp)), (rk, aI x.g 32 (zup k1 ((16 * q) + j) pk4)), (rx, aI x.g 32 (zup x1 ((16 * q) + j) px4))]) jb dX12_putRests_108 6 rfl (by omega) (by decide) rfl ?_
          refine j_aload_n jb dX12_putRests_109 3 rfl ?_
          refine j_aload_n jb dX12_putRests_110 3 rfl ?_
          refine j_get jb f_X12_117 dX12_putRests_111 0 rfl rfl ?_
          refine j_i2l jb dX12_putRests_114 (by omega) ?_
          refine j_iconst jb dX12_putRests_115 ?_
          refine j_callV (wr := [(re, aL x.g 400 rs), (ua, aL x.g 400 U), (rt, aI x.g 8 (zup tt ((4 * q) + 3) bp)), (rk, aI x.g 32 (zup k1 ((16 * q) + j) pk4)), (rx, aI x.g 32 (zup x1 ((16 * q) + j) px4))]) jb k_X12_put i_X12_put s_X12_put l_X12_166 (C_X12_put x.l x.g n0 my sm st yb pkr rt rk rx si gt va re ua mk rki rea rby th dp sz mo ms hpk hsh vn wd wa pk4 px4 bp q3 pl cd rn rch rtn rdp rsh pk4 4 M1 (by omega) (by omega) (by (by_cases y : pk4 = 15); { have := kB_len15 (x := px4) y; omega }; { have := kB_lenk (x := px4) y; omega }) hj4.1 hj5) 0 14 rfl rfl rfl [0, 3] [1, 2, 4, 5, 6] (by decide) rfl rfl (by decide) (by decide) rfl rfl (Nat.le_of_ble_eq_true rfl) (by decide) dX12_putRests_116 (fun v w hp => ?_)
          obtain ⟨b1, Ma, rfl, rfl, h116⟩ := hp
          refine j_norm (lv' := [(8, .long (lI r4)), (7, .int (iI ((j + 1) * (vn / 2 ^ bp.toNat)))), (6, .int (iI fr)), (0, .ref n0), (1, .int (iI q)), (2, .int (iI o)), (3, .int (iI bp)), (4, .int (iI (vn / 2 ^ bp.toNat))), (5, .int (iI j))]) (st' := []) (ws' := [(n0, oX12 th dp my sm st sz mo ms yb hpk pkr rt rk rx hsh si gt va vn wd wa re ua pk4 px4 bp mk b1 pl cd rn rch rtn rdp rki rea rby rsh), (re, aL x.g 400 rs), (ua, aL x.g 400 U), (mk, aI x.g 4000 Ma), (rt, aI x.g 8 (zup tt ((4 * q) + 3) bp)), (rk, aI x.g 32 (zup k1 ((16 * q) + j) pk4)), (rx, aI x.g 32 (zup x1 ((16 * q) + j) px4))]) [0, 1, 2, 3, 4, 5, 6, 7, 8] [5, 0, 1, 6, 2, 3, 4] rfl rfl (by decide) rfl ?_
          refine j_aload_n jb dX12_putRests_119 3 rfl ?_
          refine j_get jb f_X12_117 dX12_putRests_120 0 rfl rfl ?_
          refine j_bipush jb dX12_putRests_123 (by decide) ?_
          have J138 : ∀ (q6 : Int) (M6 : Int → Int), (wrote 4000 M1 q3 (kB pk4 px4) M6 ∧ q6 = q3 + (kB pk4 px4).length ∧ tl M6 q6) → JW x 0 0 138 [(0, .ref n0), (1, .int (iI q)), (2, .int (iI o)), (3, .int (iI bp)), (4, .int (iI (vn / 2 ^ bp.toNat))), (5, .int (iI j)), (6, .int (iI fr)), (7, .int (iI ((j + 1) * (vn / 2 ^ bp.toNat)))), (8, .long (lI r4))] [] [(n0, oX12 th dp my sm st sz mo ms yb hpk pkr rt rk rx hsh si gt va vn wd wa re ua pk4 px4 bp mk q6 pl cd rn rch rtn rdp rki rea rby rsh), (re, aL x.g 400 rs), (ua, aL x.g 400 U), (mk, aI x.g 4000 M6), (rt, aI x.g 8 (zup tt ((4 * q) + 3) bp)), (rk, aI x.g 32 (zup k1 ((16 * q) + j) pk4)), (rx, aI x.g 32 (zup x1 ((16 * q) + j) px4))] := by
            intro q6 M6 ⟨hw6, hp6, ht6⟩
            refine j_iload jb dX12_putRests_138 6 rfl ?_
            refine j_istore (lv' := [(10, .int (iI fr)), (0, .ref n0), (1, .int (iI q)), (2, .int (iI o)), (3, .int (iI bp)), (4, .int (iI (vn / 2 ^ bp.toNat))), (5, .int (iI j)), (6, .int (iI fr)), (7, .int (iI ((j + 1) * (vn / 2 ^ bp.toNat)))), (8, .long (lI r4))]) jb dX12_putRests_140 (by decide) rfl ?_
            have L142 : ∀ (fu : Nat) (i q7 : Int) (M7 : Int → Int), (fr ≤ i ∧ i ≤ (j + 1) * (vn / 2 ^ bp.toNat) ∧ q7 = q6 + (restsB U pk4 px4 fr (i - fr).toNat).length ∧ wrote 4000 M6 q6 (restsB U pk4 px4 fr (i - fr).toNat) M7 ∧ tl M7 q7) → ((j + 1) * (vn / 2 ^ bp.toNat) - i).toNat < fu → JW x 0 0 142 [(0, .ref n0), (1, .int (iI q)), (2, .int (iI o)), (3, .int (iI bp)), (4, .int (iI (vn / 2 ^ bp.toNat))), (5, .int (iI j)), (6, .int (iI fr)), (7, .int (iI ((j + 1) * (vn / 2 ^ bp.toNat)))), (10, .int (iI i))] [] [(n0, oX12 th dp my sm st sz mo ms yb hpk pkr rt rk rx hsh si gt va vn wd wa re ua pk4 px4 bp mk q7 pl cd rn rch rtn rdp rki rea rby rsh), (re, aL x.g 400 rs), (ua, aL x.g 400 U), (mk, aI x.g 4000 M7), (rt, aI x.g 8 (zup tt ((4 * q) + 3) bp)), (rk, aI x.g 32 (zup k1 ((16 * q) + j) pk4)), (rx, aI x.g 32 (zup x1 ((16 * q) + j) px4))] := by
              intro fu
              induction fu with
              | zero => intro i q7 M7 _ hm; exact absurd hm (by omega)
              | succ fu ih =>
                intro i q7 M7 ⟨hi1, hi2, hi3, hi4, hi5⟩ hm142
                have ih142 := ih
                clear ih
                refine j_iload jb dX12_putRests_142 8 rfl ?_
                refine j_iload jb dX12_putRests_144 7 rfl ?_
                refine j_icmp_ge (tgt := 239) jb dX12_putRests_146 (by decide) (by omega) (by omega) (fun c_146 => ?_) (fun c_146 => ?_)
                · skip
                  refine j_iinc (lv' := [(5, .int (iI (j + 1))), (0, .ref n0), (1, .int (iI q)), (2, .int (iI o)), (3, .int (iI bp)), (4, .int (iI (vn / 2 ^ bp.toNat))), (6, .int (iI fr)), (7, .int (iI ((j + 1) * (vn / 2 ^ bp.toNat)))), (10, .int (iI i))]) jb dX12_putRests_239 5 rfl (by decide) rfl ?_
                  refine j_goto (tgt := 34) jb dX12_putRests_242 (by decide) ?_
                  refine j_norm (lv' := [(0, .ref n0), (1, .int (iI q)), (2, .int (iI o)), (3, .int (iI bp)), (4, .int (iI (vn / 2 ^ bp.toNat))), (5, .int (iI (j + 1)))]) (st' := []) (ws' := [(n0, oX12 th dp my sm st sz mo ms yb hpk pkr rt rk rx hsh si gt va vn wd wa re ua pk4 px4 bp mk q7 pl cd rn rch rtn rdp rki rea rby rsh), (re, aL x.g 400 rs), (ua, aL x.g 400 U), (mk, aI x.g 4000 M7), (rt, aI x.g 8 (zup tt ((4 * q) + 3) bp)), (rk, aI x.g 32 (zup k1 ((16 * q) + j) pk4)), (rx, aI x.g 32 (zup x1 ((16 * q) + j) px4))]) [1, 2, 3, 4, 5, 0] [0, 1, 2, 3, 4, 5, 6] rfl rfl (by decide) rfl ?_
                  exact ih34 (j + 1) q7 pk4 px4 M7 (zup k1 ((16 * q) + j) pk4) (zup x1 ((16 * q) + j) px4) (by have z := partsB_next (U := U) (o := o) (each := (vn / 2 ^ bp.toNat)) (K := K) (X := X) hj1; rw [show i = (j + 1) * (vn / 2 ^ bp.toNat) by omega, htf, hfr, hps.2.1, hps.2.2] at hi3 hi4; rw [hps.2.1, hps.2.2] at hw6 hp6; exact ⟨by omega, by omega, by rw [z, List.length_append, List.length_append]; omega, by rw [z]; exact wrote_app hj4 (wrote_app hw6 hi4 (by omega) hp6) (by omega) hj3, hi5, fun t a b => by (by_cases e : t = j); { rw [e, zup_s, zup_s]; exact ⟨hps.2.1, hps.2.2⟩ }; { rw [zup_n (by omega), zup_n (by omega)]; exact hj6 t a (by omega) }, fun t a => by rw [zup_n (by omega), zup_n (by omega)]; exact hj7 t a⟩) (by omega)
                · skip
                  have hun := hU i (by omega) (by omega)
                  have hue : unf (U i) = rs i := by (rw [hrs i (by omega) (by omega), unf_fld])
                  have hri := fld_e (e := rs i) (by rw [← hrs i (by omega) (by omega)]; exact hun.2)
                  have hrr := restsB_room (U := U) (k := pk4) (x := px4) hi1 (show i < (j + 1) * (vn / 2 ^ bp.toNat) by omega)
                  refine j_aload_n jb dX12_putRests_149 0 rfl ?_
                  refine j_get jb f_X12_117 dX12_putRests_150 0 rfl rfl ?_
                  refine j_bipush jb dX12_putRests_153 (by decide) ?_
                  refine j_icmp_ne (tgt := 176) jb dX12_putRests_155 (by decide) (by omega) (by omega) (fun c_155 => ?_) (fun c_155 => ?_)
                  · skip
                    have hud := Int.ediv_nonneg hun.1 (Int.le_of_lt (pw_pos pk4))
                    have zl := restB_len (u := U i) (x := px4) c_155 hun.1 (by omega)
                    refine j_aload_n jb dX12_putRests_176 0 rfl ?_
                    refine j_get jb f_X12_54 dX12_putRests_177 0 rfl rfl ?_
                    refine j_iload jb dX12_putRests_180 8 rfl ?_
                    refine j_lald jb dX12_putRests_182 2 rfl (by omega) (by decide) ?_
                    refine j_aload_n jb dX12_putRests_183 0 rfl ?_
                    refine j_get jb f_X12_117 dX12_putRests_184 0 rfl rfl ?_
                    refine j_lshr jb dX12_putRests_187 (by omega) (by omega) ?_
                    refine j_lstore (lv' := [(11, .long (lI ((U i) / 2 ^ pk4.toNat))), (0, .ref n0), (1, .int (iI q)), (2, .int (iI o)), (3, .int (iI bp)), (4, .int (iI (vn / 2 ^ bp.toNat))), (5, .int (iI j)), (6, .int (iI fr)), (7, .int (iI ((j + 1) * (vn / 2 ^ bp.toNat)))), (10, .int (iI i))]) jb dX12_putRests_188 (by decide) rfl ?_
                    have L190 : ∀ (fu : Nat) (hh q8 : Int) (M8 : Int → Int), (0 ≤ hh ∧ hh ≤ U i / 2 ^ pk4.toNat ∧ q8 = q7 + (U i / 2 ^ pk4.toNat - hh) ∧ wrote 4000 M7 q7 (List.replicate (U i / 2 ^ pk4.toNat - hh).toNat 1) M8 ∧ tl M8 q8) → (hh).toNat < fu → JW x 0 0 190 [(0, .ref n0), (1, .int (iI q)), (2, .int (iI o)), (3, .int (iI bp)), (4, .int (iI (vn / 2 ^ bp.toNat))), (5, .int (iI j)), (6, .int (iI fr)), (7, .int (iI ((j + 1) * (vn / 2 ^ bp.toNat)))), (10, .int (iI i)), (11, .long (lI hh))] [] [(n0, oX12 th dp my sm st sz mo ms yb hpk pkr rt rk rx hsh si gt va vn wd wa re ua pk4 px4 bp mk q8 pl cd rn rch rtn rdp rki rea rby rsh), (re, aL x.g 400 rs), (ua, aL x.g 400 U), (mk, aI x.g 4000 M8), (rt, aI x.g 8 (zup tt ((4 * q) + 3) bp)), (rk, aI x.g 32 (zup k1 ((16 * q) + j) pk4)), (rx, aI x.g 32 (zup x1 ((16 * q) + j) px4))] := by
                      intro fu
                      induction fu with
                      | zero => intro hh q8 M8 _ hm; exact absurd hm (by omega)
                      | succ fu ih =>
                        intro hh q8 M8 ⟨hr1, hr2, hr3, hr4, hr5⟩ hm190
                        have ih190 := ih
                        clear ih
                        refine j_lload jb dX12_putRests_190 9 rfl ?_
                        refine j_lconst (z := 0) jb dX12_putRests_192 rfl ?_
                        refine j_lcmp_le (tgt := 212) jb dX12_putRests_193 dX12_putRests_194 (by decide) (by omega) (by omega) (fun c_193 => ?_) (fun c_193 => ?_)
                        · skip
                          refine j_aload_n jb dX12_putRests_212 0 rfl ?_
                          refine j_lconst (z := 0) jb dX12_putRests_213 rfl ?_
                          refine j_iconst jb dX12_putRests_214 ?_
                          refine j_callV (wr := [(re, aL x.g 400 rs), (ua, aL x.g 400 U), (rt, aI x.g 8 (zup tt ((4 * q) + 3) bp)), (rk, aI x.g 32 (zup k1 ((16 * q) + j) pk4)), (rx, aI x.g 32 (zup x1 ((16 * q) + j) px4))]) jb k_X12_put i_X12_put s_X12_put l_X12_166 (C_X12_put x.l x.g n0 my sm st yb pkr rt rk rx si gt va re ua mk rki rea rby th dp sz mo ms hpk hsh vn wd wa pk4 px4 bp q8 pl cd rn rch rtn rdp rsh 0 1 M8 (by decide) (by decide) (by omega) hr4.1 hr5) 0 14 rfl rfl rfl [0, 3] [1, 2, 4, 5, 6] (by decide) rfl rfl (by decide) (by decide) rfl rfl (Nat.le_of_ble_eq_true rfl) (by decide) dX12_putRests_215 (fun v w hp => ?_)
                          obtain ⟨b5, Me, rfl, rfl, h215⟩ := hp
                          refine j_norm (lv' := [(0, .ref n0), (1, .int (iI q)), (2, .int (iI o)), (3, .int (iI bp)), (4, .int (iI (vn / 2 ^ bp.toNat))), (5, .int (iI j)), (6, .int (iI fr)), (7, .int (iI ((j + 1) * (vn / 2 ^ bp.toNat)))), (10, .int (iI i)), (11, .long (lI hh))]) (st' := []) (ws' := [(n0, oX12 th dp my sm st sz mo ms yb hpk pkr rt rk rx hsh si gt va vn wd wa re ua pk4 px4 bp mk b5 pl cd rn rch rtn rdp rki rea rby rsh), (re, aL x.g 400 rs), (ua, aL x.g 400 U), (mk, aI x.g 4000 Me), (rt, aI x.g 8 (zup tt ((4 * q) + 3) bp)), (rk, aI x.g 32 (zup k1 ((16 * q) + j) pk4)), (rx, aI x.g 32 (zup x1 ((16 * q) + j) px4))]) [0, 1, 2, 3, 4, 5, 6, 7, 8, 9] [5, 0, 1, 6, 2, 3, 4] rfl rfl (by decide) rfl ?_
                          refine j_aload_n jb dX12_putRests_218 0 rfl ?_
                          refine j_aload_n jb dX12_putRests_219 0 rfl ?_
                          refine j_get jb f_X12_54 dX12_putRests_220 0 rfl rfl ?_
                          refine j_iload jb dX12_putRests_223 8 rfl ?_
                          refine j_lald jb dX12_putRests_225 2 rfl (by omega) (by decide) ?_
                          refine j_aload_n jb dX12_putRests_226 0 rfl ?_
                          refine j_get jb f_X12_117 dX12_putRests_227 0 rfl rfl ?_
                          refine j_callV (wr := [(re, aL x.g 400 rs), (ua, aL x.g 400 U), (rt, aI x.g 8 (zup tt ((4 * q) + 3) bp)), (rk, aI x.g 32 (zup k1 ((16 * q) + j) pk4)), (rx, aI x.g 32 (zup x1 ((16 * q) + j) px4))]) jb k_X12_put i_X12_put s_X12_put l_X12_166 (C_X12_put x.l x.g n0 my sm st yb pkr rt rk rx si gt va re ua mk rki rea rby th dp sz mo ms hpk hsh vn wd wa pk4 px4 bp b5 pl cd rn rch rtn rdp rsh (U i) pk4 Me (by omega) (by omega) (by omega) h215.2.1.1 h215.2.2) 0 14 rfl rfl rfl [0, 3] [1, 2, 4, 5, 6] (by decide) rfl rfl (by decide) (by decide) rfl rfl (Nat.le_of_ble_eq_true rfl) (by decide) dX12_putRests_230 (fun v w hp => ?_)
                          obtain ⟨b6, Mf, rfl, rfl, h230⟩ := hp
                          refine j_norm (lv' := [(0, .ref n0), (1, .int (iI q)), (2, .int (iI o)), (3, .int (iI bp)), (4, .int (iI (vn / 2 ^ bp.toNat))), (5, .int (iI j)), (6, .int (iI fr)), (7, .int (iI ((j + 1) * (vn / 2 ^ bp.toNat)))), (10, .int (iI i)), (11, .long (lI hh))]) (st' := []) (ws' := [(n0, oX12 th dp my sm st sz mo ms yb hpk pkr rt rk rx hsh si gt va vn wd wa re ua pk4 px4 bp mk b6 pl cd rn rch rtn rdp rki rea rby rsh), (re, aL x.g 400 rs), (ua, aL x.g 400 U), (mk, aI x.g 4000 Mf), (rt, aI x.g 8 (zup tt ((4 * q) + 3) bp)), (rk, aI x.g 32 (zup k1 ((16 * q) + j) pk4)), (rx, aI x.g 32 (zup x1 ((16 * q) + j) px4))]) [0, 1, 2, 3, 4, 5, 6, 7, 8, 9] [5, 0, 1, 6, 2, 3, 4] rfl rfl (by decide) rfl ?_
                          refine j_iinc (lv' := [(10, .int (iI (i + 1))), (0, .ref n0), (1, .int (iI q)), (2, .int (iI o)), (3, .int (iI bp)), (4, .int (iI (vn / 2 ^ bp.toNat))), (5, .int (iI j)), (6, .int (iI fr)), (7, .int (iI ((j + 1) * (vn / 2 ^ bp.toNat)))), (11, .long (lI hh))]) jb dX12_putRests_233 8 rfl (by decide) rfl ?_
                          refine j_goto (tgt := 142) jb dX12_putRests_236 (by decide) ?_
                          refine j_norm (lv' := [(0, .ref n0), (1, .int (iI q)), (2, .int (iI o)), (3, .int (iI bp)), (4, .int (iI (vn / 2 ^ bp.toNat))), (5, .int (iI j)), (6, .int (iI fr)), (7, .int (iI ((j + 1) * (vn / 2 ^ bp.toNat)))), (10, .int (iI (i + 1)))]) (st' := []) (ws' := [(n0, oX12 th dp my sm st sz mo ms yb hpk pkr rt rk rx hsh si gt va vn wd wa re ua pk4 px4 bp mk b6 pl cd rn rch rtn rdp rki rea rby rsh), (re, aL x.g 400 rs), (ua, aL x.g 400 U), (mk, aI x.g 4000 Mf), (rt, aI x.g 8 (zup tt ((4 * q) + 3) bp)), (rk, aI x.g 32 (zup k1 ((16 * q) + j) pk4)), (rx, aI x.g 32 (zup x1 ((16 * q) + j) px4))]) [1, 2, 3, 4, 5, 6, 7, 8, 0] [0, 1, 2, 3, 4, 5, 6] rfl rfl (by decide) rfl ?_
                          exact ih142 (i + 1) b6 Mf (by have z := restsB_next (U := U) (k := pk4) (x := px4) hi1; first | (have zz := @restB_15 (U i) px4; rw [← c_155] at zz; rw [hue] at zz; rw [zz] at z; exact ⟨by omega, by omega, by rw [z, List.length_append, nb_len]; omega, by rw [z]; exact wrote_app hi4 h170.2.1 (by omega) hi3, h170.2.2⟩) | (have zz := restB_k (u := U i) (x := px4) c_155; have zl := restB_len (u := U i) (x := px4) c_155 hun.1 (by omega); have w9 := wrote_app (wrote_app hr4 h215.2.1 (by omega) (by rw [List.length_replicate]; omega)) h230.2.1 (by omega) (by rw [List.length_append, List.length_replicate, nb_len]; omega); rw [show (U i / 2 ^ pk4.toNat - hh).toNat = (U i / 2 ^ pk4.toNat).toNat by omega] at w9; exact ⟨by omega, by omega, by rw [z, List.length_append]; omega, by rw [z, zz]; exact wrote_app hi4 w9 (by omega) hi3, h230.2.2⟩)) (by omega)
                        · skip
                          refine j_aload_n jb dX12_putRests_197 0 rfl ?_
                          refine j_lconst (z := 1) jb dX12_putRests_198 rfl ?_
                          refine j_iconst jb dX12_putRests_199 ?_
                          refine j_callV (wr := [(re, aL x.g 400 rs), (ua, aL x.g 400 U), (rt, aI x.g 8 (zup tt ((4 * q) + 3) bp)), (rk, aI x.g 32 (zup k1 ((16 * q) + j) pk4)), (rx, aI x.g 32 (zup x1 ((16 * q) + j) px4))]) jb k_X12_put i_X12_put s_X12_put l_X12_166 (C_X12_put x.l x.g n0 my sm st yb pkr rt rk rx si gt va re ua mk rki rea rby th dp sz mo ms hpk hsh vn wd wa pk4 px4 bp q8 pl cd rn rch rtn rdp rsh 1 1 M8 (by decide) (by decide) (by omega) hr4.1 hr5) 0 14 rfl rfl rfl [0, 3] [1, 2, 4, 5, 6] (by decide) rfl rfl (by decide) (by decide) rfl rfl (Nat.le_of_ble_eq_true rfl) (by decide) dX12_putRests_200 (fun v w hp => ?_)
                          obtain ⟨b4, Md, rfl, rfl, h200⟩ := hp
                          refine j_norm (lv' := [(0, .ref n0), (1, .int (iI q)), (2, .int (iI o)), (3, .int (iI bp)), (4, .int (iI (vn / 2 ^ bp.toNat))), (5, .int (iI j)), (6, .int (iI fr)), (7, .int (iI ((j + 1) * (vn / 2 ^ bp.toNat)))), (10, .int (iI i)), (11, .long (lI hh))]) (st' := []) (ws' := [(n0, oX12 th dp my sm st sz mo ms yb hpk pkr rt rk rx hsh si gt va vn wd wa re ua pk4 px4 bp mk b4 pl cd rn rch rtn rdp rki rea rby rsh), (re, aL x.g 400 rs), (ua, aL x.g 400 U), (mk, aI x.g 4000 Md), (rt, aI x.g 8 (zup tt ((4 * q) + 3) bp)), (rk, aI x.g 32 (zup k1 ((16 * q) + j) pk4)), (rx, aI x.g 32 (zup x1 ((16 * q) + j) px4))]) [0, 1, 2, 3, 4, 5, 6, 7, 8, 9] [5, 0, 1, 6, 2, 3, 4] rfl rfl (by decide) rfl ?_
                          refine j_lload jb dX12_putRests_203 9 rfl ?_
                          refine j_lconst (z := 1) jb dX12_putRests_205 rfl ?_
                          refine j_lsub jb dX12_putRests_206 ?_
                          refine j_lstore (lv' := [(11, .long (lI (hh - 1))), (0, .ref n0), (1, .int (iI q)), (2, .int (iI o)), (3, .int (iI bp)), (4, .int (iI (vn / 2 ^ bp.toNat))), (5, .int (iI j)), (6, .int (iI fr)), (7, .int (iI ((j + 1) * (vn / 2 ^ bp.toNat)))), (10, .int (iI i))]) jb dX12_putRests_207 (by decide) rfl ?_
                          refine j_goto (tgt := 190) jb dX12_putRests_209 (by decide) ?_
                          refine j_norm (lv' := [(0, .ref n0), (1, .int (iI q)), (2, .int (iI o)), (3, .int (iI bp)), (4, .int (iI (vn / 2 ^ bp.toNat))), (5, .int (iI j)), (6, .int (iI fr)), (7, .int (iI ((j + 1) * (vn / 2 ^ bp.toNat)))), (10, .int (iI i)), (11, .long (lI (hh - 1)))]) (st' := []) (ws' := [(n0, oX12 th dp my sm st sz mo ms yb hpk pkr rt rk rx hsh si gt va vn wd wa re ua pk4 px4 bp mk b4 pl cd rn rch rtn rdp rki rea rby rsh), (re, aL x.g 400 rs), (ua, aL x.g 400 U), (mk, aI x.g 4000 Md), (rt, aI x.g 8 (zup tt ((4 * q) + 3) bp)), (rk, aI x.g 32 (zup k1 ((16 * q) + j) pk4)), (rx, aI x.g 32 (zup x1 ((16 * q) + j) px4))]) [1, 2, 3, 4, 5, 6, 7, 8, 9, 0] [0, 1, 2, 3, 4, 5, 6] rfl rfl (by decide) rfl ?_
                          exact ih190 (hh - 1) b4 Md ⟨by omega, by omega, by omega, by rw [show (U i / 2 ^ pk4.toNat - (hh - 1)).toNat = (U i / 2 ^ pk4.toNat - hh).toNat + 1 by omega, List.replicate_succ']; exact wrote_app hr4 h200.2.1 (by omega) (by rw [List.length_replicate]; omega), h200.2.2⟩ (by omega)
                    refine j_norm (lv' := [(0, .ref n0), (1, .int (iI q)), (2, .int (iI o)), (3, .int (iI bp)), (4, .int (iI (vn / 2 ^ bp.toNat))), (5, .int (iI j)), (6, .int (iI fr)), (7, .int (iI ((j + 1) * (vn / 2 ^ bp.toNat)))), (10, .int (iI i)), (11, .long (lI ((U i) / 2 ^ pk4.toNat)))]) (st' := []) (ws' := [(n0, oX12 th dp my sm st sz mo ms yb hpk pkr rt rk rx hsh si gt va vn wd wa re ua pk4 px4 bp mk q7 pl cd rn rch rtn rdp rki rea rby rsh), (re, aL x.g 400 rs), (ua, aL x.g 400 U), (mk, aI x.g 4000 M7), (rt, aI x.g 8 (zup tt ((4 * q) + 3) bp)), (rk, aI x.g 32 (zup k1 ((16 * q) + j) pk4)), (rx, aI x.g 32 (zup x1 ((16 * q) + j) px4))]) [1, 2, 3, 4, 5, 6, 7, 8, 9, 0] [0, 1, 2, 3, 4, 5, 6] rfl rfl (by decide) rfl ?_
                    exact L190 _ ((U i) / 2 ^ pk4.toNat) q7 M7 ⟨hud, Int.le_refl _, by omega, by rw [Int.sub_self]; exact wrote_nil hi4.1, hi5⟩ (Nat.lt_succ_self _)
                  · skip
                    refine j_aload_n jb dX12_putRests_158 0 rfl ?_
                    refine j_aload_n jb dX12_putRests_159 0 rfl ?_
                    refine j_get jb f_X12_50 dX12_putRests_160 0 rfl rfl ?_
                    refine j_iload jb dX12_putRests_163 8 rfl ?_
                    refine j_lald jb dX12_putRests_165 1 rfl (by omega) (by decide) ?_
                    refine j_aload_n jb dX12_putRests_166 0 rfl ?_
                    refine j_get jb f_X12_120 dX12_putRests_167 0 rfl rfl ?_
                    refine j_callV (wr := [(re, aL x.g 400 rs), (ua, aL x.g 400 U), (rt, aI x.g 8 (zup tt ((4 * q) + 3) bp)), (rk, aI x.g 32 (zup k1 ((16 * q) + j) pk4)), (rx, aI x.g 32 (zup x1 ((16 * q) + j) px4))]) jb k_X12_put i_X12_put s_X12_put l_X12_166 (C_X12_put x.l x.g n0 my sm st yb pkr rt rk rx si gt va re ua mk rki rea rby th dp sz mo ms hpk hsh vn wd wa pk4 px4 bp q7 pl cd rn rch rtn rdp rsh (rs i) px4 M7 (by omega) (by have := hk15.2 c_155; omega) (by have := hk15.2 c_155; have zz := @restB_15 (U i) px4; rw [← c_155] at zz; rw [zz, nb_len] at hrr; omega) hi4.1 hi5) 0 14 rfl rfl rfl [0, 3] [1, 2, 4, 5, 6] (by decide) rfl rfl (by decide) (by decide) rfl rfl (Nat.le_of_ble_eq_true rfl) (by decide) dX12_putRests_170 (fun v w hp => ?_)
                    obtain ⟨b3, Mc, rfl, rfl, h170⟩ := hp
                    refine j_norm (lv' := [(0, .ref n0), (1, .int (iI q)), (2, .int (iI o)), (3, .int (iI bp)), (4, .int (iI (vn / 2 ^ bp.toNat))), (5, .int (iI j)), (6, .int (iI fr)), (7, .int (iI ((j + 1) * (vn / 2 ^ bp.toNat)))), (10, .int (iI i))]) (st' := []) (ws' := [(n0, oX12 th dp my sm st sz mo ms yb hpk pkr rt rk rx hsh si gt va vn wd wa re ua pk4 px4 bp mk b3 pl cd rn rch rtn rdp rki rea rby rsh), (re, aL x.g 400 rs), (ua, aL x.g 400 U), (mk, aI x.g 4000 Mc), (rt, aI x.g 8 (zup tt ((4 * q) + 3) bp)), (rk, aI x.g 32 (zup k1 ((16 * q) + j) pk4)), (rx, aI x.g 32 (zup x1 ((16 * q) + j) px4))]) [0, 1, 2, 3, 4, 5, 6, 7, 8] [5, 0, 1, 6, 2, 3, 4] rfl rfl (by decide) rfl ?_
                    refine j_goto (tgt := 233) jb dX12_putRests_173 (by decide) ?_
                    refine j_iinc (lv' := [(10, .int (iI (i + 1))), (0, .ref n0), (1, .int (iI q)), (2, .int (iI o)), (3, .int (iI bp)), (4, .int (iI (vn / 2 ^ bp.toNat))), (5, .int (iI j)), (6, .int (iI fr)), (7, .int (iI ((j + 1) * (vn / 2 ^ bp.toNat))))]) jb dX12_putRests_233 8 rfl (by decide) rfl ?_
                    refine j_goto (tgt := 142) jb dX12_putRests_236 (by decide) ?_
                    refine j_norm (lv' := [(0, .ref n0), (1, .int (iI q)), (2, .int (iI o)), (3, .int (iI bp)), (4, .int (iI (vn / 2 ^ bp.toNat))), (5, .int (iI j)), (6, .int (iI fr)), (7, .int (iI ((j + 1) * (vn / 2 ^ bp.toNat)))), (10, .int (iI (i + 1)))]) (st' := []) (ws' := [(n0, oX12 th dp my sm st sz mo ms yb hpk pkr rt rk rx hsh si gt va vn wd wa re ua pk4 px4 bp mk b3 pl cd rn rch rtn rdp rki rea rby rsh), (re, aL x.g 400 rs), (ua, aL x.g 400 U), (mk, aI x.g 4000 Mc), (rt, aI x.g 8 (zup tt ((4 * q) + 3) bp)), (rk, aI x.g 32 (zup k1 ((16 * q) + j) pk4)), (rx, aI x.g 32 (zup x1 ((16 * q) + j) px4))]) [1, 2, 3, 4, 5, 6, 7, 8, 0] [0, 1, 2, 3, 4, 5, 6] rfl rfl (by decide) rfl ?_
                    exact ih142 (i + 1) b3 Mc (by have z := restsB_next (U := U) (k := pk4) (x := px4) hi1; first | (have zz := @restB_15 (U i) px4; rw [← c_155] at zz; rw [hue] at zz; rw [zz] at z; exact ⟨by omega, by omega, by rw [z, List.length_append, nb_len]; omega, by rw [z]; exact wrote_app hi4 h170.2.1 (by omega) hi3, h170.2.2⟩) | (have zz := restB_k (u := U i) (x := px4) c_155; have zl := restB_len (u := U i) (x := px4) c_155 hun.1 (by omega); have w9 := wrote_app (wrote_app hr4 h215.2.1 (by omega) (by rw [List.length_replicate]; omega)) h230.2.1 (by omega) (by rw [List.length_append, List.length_replicate, nb_len]; omega); rw [show (U i / 2 ^ pk4.toNat - hh).toNat = (U i / 2 ^ pk4.toNat).toNat by omega] at w9; exact ⟨by omega, by omega, by rw [z, List.length_append]; omega, by rw [z, zz]; exact wrote_app hi4 w9 (by omega) hi3, h230.2.2⟩)) (by omega)
            refine j_norm (lv' := [(0, .ref n0), (1, .int (iI q)), (2, .int (iI o)), (3, .int (iI bp)), (4, .int (iI (vn / 2 ^ bp.toNat))), (5, .int (iI j)), (6, .int (iI fr)), (7, .int (iI ((j + 1) * (vn / 2 ^ bp.toNat)))), (10, .int (iI fr))]) (st' := []) (ws' := [(n0, oX12 th dp my sm st sz mo ms yb hpk pkr rt rk rx hsh si gt va vn wd wa re ua pk4 px4 bp mk q6 pl cd rn rch rtn rdp rki rea rby rsh), (re, aL x.g 400 rs), (ua, aL x.g 400 U), (mk, aI x.g 4000 M6), (rt, aI x.g 8 (zup tt ((4 * q) + 3) bp)), (rk, aI x.g 32 (zup k1 ((16 * q) + j) pk4)), (rx, aI x.g 32 (zup x1 ((16 * q) + j) px4))]) [1, 2, 3, 4, 5, 6, 7, 8, 0] [0, 1, 2, 3, 4, 5, 6] rfl rfl (by decide) rfl ?_
            exact L142 _ fr q6 M6 ⟨Int.le_refl _, by omega, by rw [Int.sub_self]; show q6 = q6 + ((0 : Nat) : Int); omega, by rw [Int.sub_self]; exact wrote_nil hw6.1, ht6⟩ (Nat.lt_succ_self _)
          refine j_icmp_ne (tgt := 138) jb dX12_putRests_125 (by decide) (by omega) (by omega) (fun c_125 => ?_) (fun c_125 => ?_)
          · skip
            refine j_norm (lv' := [(0, .ref n0), (1, .int (iI q)), (2, .int (iI o)), (3, .int (iI bp)), (4, .int (iI (vn / 2 ^ bp.toNat))), (5, .int (iI j)), (6, .int (iI fr)), (7, .int (iI ((j + 1) * (vn / 2 ^ bp.toNat)))), (8, .long (lI r4))]) (st' := []) (ws' := [(n0, oX12 th dp my sm st sz mo ms yb hpk pkr rt rk rx hsh si gt va vn wd wa re ua pk4 px4 bp mk b1 pl cd rn rch rtn rdp rki rea rby rsh), (re, aL x.g 400 rs), (ua, aL x.g 400 U), (mk, aI x.g 4000 Ma), (rt, aI x.g 8 (zup tt ((4 * q) + 3) bp)), (rk, aI x.g 32 (zup k1 ((16 * q) + j) pk4)), (rx, aI x.g 32 (zup x1 ((16 * q) + j) px4))]) [3, 4, 5, 6, 7, 8, 2, 1, 0] [0, 1, 2, 3, 4, 5, 6] rfl rfl (by decide) rfl ?_
            exact J138 b1 Ma ⟨by rw [kB_k c_125]; exact h116.2.1, by rw [kB_lenk c_125]; omega, h116.2.2⟩
          · skip
            refine j_aload_n jb dX12_putRests_128 3 rfl ?_
            refine j_aload_n jb dX12_putRests_129 3 rfl ?_
            refine j_get jb f_X12_120 dX12_putRests_130 0 rfl rfl ?_
            refine j_i2l jb dX12_putRests_133 (by omega) ?_
            refine j_iconst jb dX12_putRests_134 ?_
            refine j_callV (wr := [(re, aL x.g 400 rs), (ua, aL x.g 400 U), (rt, aI x.g 8 (zup tt ((4 * q) + 3) bp)), (rk, aI x.g 32 (zup k1 ((16 * q) + j) pk4)), (rx, aI x.g 32 (zup x1 ((16 * q) + j) px4))]) jb k_X12_put i_X12_put s_X12_put l_X12_166 (C_X12_put x.l x.g n0 my sm st yb pkr rt rk rx si gt va re ua mk rki rea rby th dp sz mo ms hpk hsh vn wd wa pk4 px4 bp b1 pl cd rn rch rtn rdp rsh px4 5 Ma (by have := hk15.2 c_125; omega) (by omega) (by have := kB_len15 (x := px4) c_125; omega) h116.2.1.1 h116.2.2) 0 14 rfl rfl rfl [0, 3] [1, 2, 4, 5, 6] (by decide) rfl rfl (by decide) (by decide) rfl rfl (Nat.le_of_ble_eq_true rfl) (by decide) dX12_putRests_135 (fun v w hp => ?_)
            obtain ⟨b2, Mb, rfl, rfl, h135⟩ := hp
            refine j_norm (lv' := [(8, .long (lI r4)), (7, .int (iI ((j + 1) * (vn / 2 ^ bp.toNat)))), (6, .int (iI fr)), (0, .ref n0), (1, .int (iI q)), (2, .int (iI o)), (3, .int (iI bp)), (4, .int (iI (vn / 2 ^ bp.toNat))), (5, .int (iI j))]) (st' := []) (ws' := [(n0, oX12 th dp my sm st sz mo ms yb hpk pkr rt rk rx hsh si gt va vn wd wa re ua pk4 px4 bp mk b2 pl cd rn rch rtn rdp rki rea rby rsh), (re, aL x.g 400 rs), (ua, aL x.g 400 U), (mk, aI x.g 4000 Mb), (rt, aI x.g 8 (zup tt ((4 * q) + 3) bp)), (rk, aI x.g 32 (zup k1 ((16 * q) + j) pk4)), (rx, aI x.g 32 (zup x1 ((16 * q) + j) px4))]) [0, 1, 2, 3, 4, 5, 6, 7, 8] [5, 0, 1, 6, 2, 3, 4] rfl rfl (by decide) rfl ?_
            refine j_norm (lv' := [(0, .ref n0), (1, .int (iI q)), (2, .int (iI o)), (3, .int (iI bp)), (4, .int (iI (vn / 2 ^ bp.toNat))), (5, .int (iI j)), (6, .int (iI fr)), (7, .int (iI ((j + 1) * (vn / 2 ^ bp.toNat)))), (8, .long (lI r4))]) (st' := []) (ws' := [(n0, oX12 th dp my sm st sz mo ms yb hpk pkr rt rk rx hsh si gt va vn wd wa re ua pk4 px4 bp mk b2 pl cd rn rch rtn rdp rki rea rby rsh), (re, aL x.g 400 rs), (ua, aL x.g 400 U), (mk, aI x.g 4000 Mb), (rt, aI x.g 8 (zup tt ((4 * q) + 3) bp)), (rk, aI x.g 32 (zup k1 ((16 * q) + j) pk4)), (rx, aI x.g 32 (zup x1 ((16 * q) + j) px4))]) [3, 4, 5, 6, 7, 8, 2, 1, 0] [0, 1, 2, 3, 4, 5, 6] rfl rfl (by decide) rfl ?_
            exact J138 b2 Mb ⟨by rw [kB_15 c_125]; exact wrote_app h116.2.1 h135.2.1 (by omega) (by rw [nb_len]; omega), by rw [kB_len15 c_125]; omega, h135.2.2⟩
        refine j_if_ne (tgt := 51) jb dX12_putRests_44 (by decide) (by omega) (fun c_44 => ?_) (fun c_44 => ?_)
        · skip
          refine j_iload jb dX12_putRests_51 5 rfl ?_
          refine j_iload jb dX12_putRests_53 4 rfl ?_
          refine j_imul jb dX12_putRests_55 ?_
          refine j_norm (lv' := [(0, .ref n0), (1, .int (iI q)), (2, .int (iI o)), (3, .int (iI bp)), (4, .int (iI (vn / 2 ^ bp.toNat))), (5, .int (iI j))]) (st' := [.int (iI (j * (vn / 2 ^ bp.toNat)))]) (ws' := [(n0, oX12 th dp my sm st sz mo ms yb hpk pkr rt rk rx hsh si gt va vn wd wa re ua pk3 px3 bp mk q3 pl cd rn rch rtn rdp rki rea rby rsh), (re, aL x.g 400 rs), (ua, aL x.g 400 U), (mk, aI x.g 4000 M1), (rt, aI x.g 8 (zup tt ((4 * q) + 3) bp)), (rk, aI x.g 32 k1), (rx, aI x.g 32 x1)]) [0, 1, 2, 3, 4, 5] [0, 1, 2, 3, 4, 5, 6] rfl rfl (by decide) rfl ?_
          exact J56 (j * (vn / 2 ^ bp.toNat)) (by unfold pst; first | (rw [if_pos c_44]; done) | (rw [if_neg c_44]; done))
        · skip
          refine j_iload_n jb dX12_putRests_47 2 rfl ?_
          refine j_goto (tgt := 56) jb dX12_putRests_48 (by decide) ?_
          refine j_norm (lv' := [(0, .ref n0), (1, .int (iI q)), (2, .int (iI o)), (3, .int (iI bp)), (4, .int (iI (vn / 2 ^ bp.toNat))), (5, .int (iI j))]) (st' := [.int (iI o)]) (ws' := [(n0, oX12 th dp my sm st sz mo ms yb hpk pkr rt rk rx hsh si gt va vn wd wa re ua pk3 px3 bp mk q3 pl cd rn rch rtn rdp rki rea rby rsh), (re, aL x.g 400 rs), (ua, aL x.g 400 U), (mk, aI x.g 4000 M1), (rt, aI x.g 8 (zup tt ((4 * q) + 3) bp)), (rk, aI x.g 32 k1), (rx, aI x.g 32 x1)]) [0, 1, 2, 3, 4, 5] [0, 1, 2, 3, 4, 5, 6] rfl rfl (by decide) rfl ?_
          exact J56 o (by unfold pst; first | (rw [if_pos c_44]; done) | (rw [if_neg c_44]; done))
  refine j_norm (lv' := [(0, .ref n0), (1, .int (iI q)), (2, .int (iI o)), (3, .int (iI bp)), (4, .int (iI (vn / 2 ^ bp.toNat))), (5, .int (iI 0))]) (st' := []) (ws' := [(n0, oX12 th dp my sm st sz mo ms yb hpk pkr rt rk rx hsh si gt va vn wd wa re ua pkk pxx bp mk b20 pl cd rn rch rtn rdp rki rea rby rsh), (re, aL x.g 400 rs), (ua, aL x.g 400 U), (mk, aI x.g 4000 M20), (rt, aI x.g 8 (zup tt ((4 * q) + 3) bp)), (rk, aI x.g 32 kk), (rx, aI x.g 32 xk)]) [3, 4, 5, 2, 1, 0] [0, 1, 2, 3, 4, 5, 6] rfl rfl (by decide) rfl ?_
  exact L34 _ 0 b20 pkk pxx M20 kk xk ⟨by decide, by omega, by show b20 = b20 + ((0 : Nat) : Int); omega, wrote_nil h20.2.1.1, h20.2.2, fun t a b => by omega, fun _ _ => ⟨rfl, rfl⟩⟩ (Nat.lt_succ_self _)

