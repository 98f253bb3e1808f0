theorem fa_ltI (a b : Int32) : a < b ↔ a.toInt < b.toInt := Int32.lt_iff_toInt_lt
set_option maxRecDepth 100000 in
set_option maxHeartbeats 4000000 in
theorem law_loop {X : KX} {g : KG} {b L a1 : Nat} {q : Nat → Nat} {xs : Nat → Int32} (C : kC X g cL_law "MarkChainsLaw" room_1 4) (hs : kScr X b L xs) (hL : L ≤ 3072) {RL : XS → MS → Prop} (hO : LOK RL) (hR : ∀ (ws : va_W) (a b pc : Nat) (lv : List (Nat × Value)), a ≤ 600000 → b ≤ 7302250 → decode cL_law pc = .ok (.ireturn, 1) → jJ X g () ws a b pc lv [.int 1] (some ())) : ∀ (n j : Nat) (T : XS) (M : MS) (w : va_W), 6 * j ≤ L + 6 → L + 1 ≤ 6 * j + n → RL T M → cF g a1 T w → jJ X g () (w ++ mw g q M) (100 + 30 * j) (22000 + 677 * j) 18 [(0, .ref b), (1, .ref a1), (2, .ref (q 0)), (3, .int (nI (6 * j)))] [] (some ()) := by
  obtain ⟨-, o0, o1, o2, o3, o4, o5, o6, o7, o8, o9, o10, o11, o12, o13, o14, o15, o16, o17, o18, o19, o20, o21, o22, o23, o24, o25, o26, o27, o28, o29, o30, o31, o32, o33, o34, o35, o36, o37, o38, o39, o40, o41, o42, o43, o44, o45, o46, o47⟩ := hO
  intro n
  induction n with
  | zero =>
    intro j T M w h1 h2 hRL hT
    exact fun hF => by
      have hgt : L < 6 * j := by omega
      revert hF
      refine r_iload_n (pc := 18) C dL_law_18 3 rfl ?_
      refine r_aload_n (pc := 19) C dL_law_19 0 rfl ?_
      refine r_slen (pc := 20) C hs dL_law_20 ?_
      refine r_bipush (pc := 21) C dL_law_21 (v := 6) (by decide) ?_
      refine r_isub (pc := 23) C dL_law_23 ?_
      refine r_gtT 1840 (pc := 24) C dL_law_24 (by decide) (by rw [fa_ltI]; show (nI L - nI 6).toInt < (nI (6 * j)).toInt; rw [pk_sub_toInt (by omega) (by omega), nI_toInt (by omega)]; omega) ?_
      refine r_iconst (pc := 1840) C dL_law_1840 (v := 1) (by decide) ?_
      exact hR _ _ _ 1841 _ (by omega) (by omega) dL_law_1841
  | succ n ih =>
    intro j T M w h1 h2 hRL hT
    refine r_iload_n (pc := 18) C dL_law_18 3 rfl ?_
    refine r_aload_n (pc := 19) C dL_law_19 0 rfl ?_
    refine r_slen (pc := 20) C hs dL_law_20 ?_
    refine r_bipush (pc := 21) C dL_law_21 (v := 6) (by decide) ?_
    refine r_isub (pc := 23) C dL_law_23 ?_
    by_cases hj : 6 * j + 6 ≤ L
    · refine r_gtF 1840 (pc := 24) C dL_law_24 (by decide) (by rw [fa_ltI]; show ¬ (nI L - nI 6).toInt < (nI (6 * j)).toInt; rw [pk_sub_toInt (by omega) (by omega), nI_toInt (by omega)]; omega) ?_
      refine r_aload_n (pc := 27) C dL_law_27 0 rfl ?_
      refine r_iload_n (pc := 28) C dL_law_28 3 rfl ?_
      refine r_sld (pc := 29) C hs (vp_in_nI (by omega) (by omega)) dL_law_29 ?_
      refine r_bipush (pc := 30) C dL_law_30 (v := 63) (by decide) ?_
      refine r_iand (pc := 32) C dL_law_32 ?_
      have tl : ∀ (T' : XS) (M' : MS) (w1 : va_W), RL T' M' → cF g a1 T' w1 → jJ X g () (w1 ++ mw g q M') (100 + 30 * (j + 1)) (22000 + 677 * (j + 1)) 1834 [(0, .ref b), (1, .ref a1), (2, .ref (q 0)), (3, .int (nI (6 * j)))] [] (some ()) := by
        intro T' M' w1 g1 g2
        refine r_iincP (pc := 1834) (v := nI (6 * (j + 1))) (lv' := [(0, .ref b), (1, .ref a1), (2, .ref (q 0)), (3, .int (nI (6 * (j + 1))))]) C dL_law_1834 3 rfl (by show nI (6 * j) + nI 6 = _; rw [nI_add, show 6 * j + 6 = 6 * (j + 1) by omega]) (by decide) [1, 2, 3, 0] rfl ?_
        refine r_goto 18 (pc := 1837) C dL_law_1837 (by decide) ?_
        exact ih (j + 1) T' M' w1 (by omega) (by omega) g1 g2
      generalize xs (nI (6 * j)).toNatClampNeg &&& 63 = v
      by_cases c0 : v = 0
      · refine r_tabIn (off := 207) 240 (pc := 33) C dL_law_33 c0 (by decide) (by decide) (by decide) (by decide) ?_
        exact la_0 C hs hj hL o0 tl T M w hRL hT
      by_cases c1 : v = 1
      · refine r_tabIn (off := 270) 303 (pc := 33) C dL_law_33 c1 (by decide) (by decide) (by decide) (by decide) ?_
        exact la_1 C hs hj hL o1 tl T M w hRL hT
      by_cases c2 : v = 2
      · refine r_tabIn (off := 293) 326 (pc := 33) C dL_law_33 c2 (by decide) (by decide) (by decide) (by decide) ?_
        exact la_2 C hs hj hL o2 tl T M w hRL hT
      by_cases c3 : v = 3
      · refine r_tabIn (off := 306) 339 (pc := 33) C dL_law_33 c3 (by decide) (by decide) (by decide) (by decide) ?_
        exact la_3 C hs hj hL o3 tl T M w hRL hT
      by_cases c4 : v = 4
      · refine r_tabIn (off := 319) 352 (pc := 33) C dL_law_33 c4 (by decide) (by decide) (by decide) (by decide) ?_
        exact la_4 C hs hj hL o4 tl T M w hRL hT
      by_cases c5 : v = 5
      · refine r_tabIn (off := 332) 365 (pc := 33) C dL_law_33 c5 (by decide) (by decide) (by decide) (by decide) ?_
        exact la_5 C hs hj hL o5 tl T M w hRL hT
      by_cases c6 : v = 6
      · refine r_tabIn (off := 355) 388 (pc := 33) C dL_law_33 c6 (by decide) (by decide) (by decide) (by decide) ?_
        exact la_6 C hs hj hL o6 tl T M w hRL hT
      by_cases c7 : v = 7
      · refine r_tabIn (off := 388) 421 (pc := 33) C dL_law_33 c7 (by decide) (by decide) (by decide) (by decide) ?_
        exact la_7 C hs hj hL o7 tl T M w hRL hT
      by_cases c8 : v = 8
      · refine r_tabIn (off := 431) 464 (pc := 33) C dL_law_33 c8 (by decide) (by decide) (by decide) (by decide) ?_
        exact la_8 C hs hj hL o8 tl T M w hRL hT
      by_cases c9 : v = 9
      · refine r_tabIn (off := 454) 487 (pc := 33) C dL_law_33 c9 (by decide) (by decide) (by decide) (by decide) ?_
        exact la_9 C hs hj hL o9 tl T M w hRL hT
      by_cases c10 : v = 10
      · refine r_tabIn (off := 477) 510 (pc := 33) C dL_law_33 c10 (by decide) (by decide) (by decide) (by decide) ?_
        exact la_10 C hs hj hL o10 tl T M w hRL hT
      by_cases c11 : v = 11
      · refine r_tabIn (off := 500) 533 (pc := 33) C dL_law_33 c11 (by decide) (by decide) (by decide) (by decide) ?_
        exact la_11 C hs hj hL o11 tl T M w hRL hT
      by_cases c12 : v = 12
      · refine r_tabIn (off := 543) 576 (pc := 33) C dL_law_33 c12 (by decide) (by decide) (by decide) (by decide) ?_
        exact la_12 C hs hj hL o12 tl T M w hRL hT
      by_cases c13 : v = 13
      · refine r_tabIn (off := 576) 609 (pc := 33) C dL_law_33 c13 (by decide) (by decide) (by decide) (by decide) ?_
        exact la_13 C hs hj hL o13 tl T M w hRL hT
      by_cases c14 : v = 14
      · refine r_tabIn (off := 599) 632 (pc := 33) C dL_law_33 c14 (by decide) (by decide) (by decide) (by decide) ?_
        exact la_14 C hs hj hL o14 tl T M w hRL hT
      by_cases c15 : v = 15
      · refine r_tabIn (off := 632) 665 (pc := 33) C dL_law_33 c15 (by decide) (by decide) (by decide) (by decide) ?_
        exact la_15 C hs hj hL o15 tl T M w hRL hT
      by_cases c16 : v = 16
      · refine r_tabIn (off := 685) 718 (pc := 33) C dL_law_33 c16 (by decide) (by decide) (by decide) (by decide) ?_
        exact la_16 C hs hj hL o16 tl T M w hRL hT
      by_cases c17 : v = 17
      · refine r_tabIn (off := 728) 761 (pc := 33) C dL_law_33 c17 (by decide) (by decide) (by decide) (by decide) ?_
        exact la_17 C hs hj hL o17 tl T M w hRL hT
      by_cases c18 : v = 18
      · refine r_tabIn (off := 771) 804 (pc := 33) C dL_law_33 c18 (by decide) (by decide) (by decide) (by decide) ?_
        exact la_18 C hs hj hL o18 tl T M w hRL hT
      by_cases c19 : v = 19
      · refine r_tabIn (off := 814) 847 (pc := 33) C dL_law_33 c19 (by decide) (by decide) (by decide) (by decide) ?_
        exact la_19 C hs hj hL o19 tl T M w hRL hT
      by_cases c20 : v = 20
      · refine r_tabIn (off := 867) 900 (pc := 33) C dL_law_33 c20 (by decide) (by decide) (by decide) (by decide) ?_
        exact la_20 C hs hj hL o20 tl T M w hRL hT
      by_cases c21 : v = 21
      · refine r_tabIn (off := 920) 953 (pc := 33) C dL_law_33 c21 (by decide) (by decide) (by decide) (by decide) ?_
        exact la_21 C hs hj hL o21 tl T M w hRL hT
      by_cases c22 : v = 22
      · refine r_tabIn (off := 973) 1006 (pc := 33) C dL_law_33 c22 (by decide) (by decide) (by decide) (by decide) ?_
        exact la_22 C hs hj hL o22 tl T M w hRL hT
      by_cases c23 : v = 23
      · refine r_tabIn (off := 1026) 1059 (pc := 33) C dL_law_33 c23 (by decide) (by decide) (by decide) (by decide) ?_
        exact la_23 C hs hj hL o23 tl T M w hRL hT
      by_cases c24 : v = 24
      · refine r_tabIn (off := 1059) 1092 (pc := 33) C dL_law_33 c24 (by decide) (by decide) (by decide) (by decide) ?_
        exact la_24 C hs hj hL o24 tl T M w hRL hT
      by_cases c25 : v = 25
      · refine r_tabIn (off := 1102) 1135 (pc := 33) C dL_law_33 c25 (by decide) (by decide) (by decide) (by decide) ?_
        exact la_25 C hs hj hL o25 tl T M w hRL hT
      by_cases c26 : v = 26
      · refine r_tabIn (off := 1125) 1158 (pc := 33) C dL_law_33 c26 (by decide) (by decide) (by decide) (by decide) ?_
        exact la_26 C hs hj hL o26 tl T M w hRL hT
      by_cases c27 : v = 27
      · refine r_tabIn (off := 1138) 1171 (pc := 33) C dL_law_33 c27 (by decide) (by decide) (by decide) (by decide) ?_
        exact la_27 C hs hj hL o27 tl T M w hRL hT
      by_cases c28 : v = 28
      · refine r_tabIn (off := 1161) 1194 (pc := 33) C dL_law_33 c28 (by decide) (by decide) (by decide) (by decide) ?_
        exact la_28 C hs hj hL o28 tl T M w hRL hT
      by_cases c29 : v = 29
      · refine r_tabIn (off := 1194) 1227 (pc := 33) C dL_law_33 c29 (by decide) (by decide) (by decide) (by decide) ?_
        exact la_29 C hs hj hL o29 tl T M w hRL hT
      by_cases c30 : v = 30
      · refine r_tabIn (off := 1227) 1260 (pc := 33) C dL_law_33 c30 (by decide) (by decide) (by decide) (by decide) ?_
        exact la_30 C hs hj hL o30 tl T M w hRL hT
      by_cases c31 : v = 31
      · refine r_tabIn (off := 1250) 1283 (pc := 33) C dL_law_33 c31 (by decide) (by decide) (by decide) (by decide) ?_
        exact la_31 C hs hj hL o31 tl T M w hRL hT
      by_cases c32 : v = 32
      · refine r_tabIn (off := 1283) 1316 (pc := 33) C dL_law_33 c32 (by decide) (by decide) (by decide) (by decide) ?_
        exact la_32 C hs hj hL o32 tl T M w hRL hT
      by_cases c33 : v = 33
      · refine r_tabIn (off := 1336) 1369 (pc := 33) C dL_law_33 c33 (by decide) (by decide) (by decide) (by decide) ?_
        exact la_33 C hs hj hL o33 tl T M w hRL hT
      by_cases c34 : v = 34
      · refine r_tabIn (off := 1369) 1402 (pc := 33) C dL_law_33 c34 (by decide) (by decide) (by decide) (by decide) ?_
        exact la_34 C hs hj hL o34 tl T M w hRL hT
      by_cases c35 : v = 35
      · refine r_tabIn (off := 1412) 1445 (pc := 33) C dL_law_33 c35 (by decide) (by decide) (by decide) (by decide) ?_
        exact la_35 C hs hj hL o35 tl T M w hRL hT
      by_cases c36 : v = 36
      · refine r_tabIn (off := 1425) 1458 (pc := 33) C dL_law_33 c36 (by decide) (by decide) (by decide) (by decide) ?_
        exact la_36 C hs hj hL o36 tl T M w hRL hT
      by_cases c37 : v = 37
      · refine r_tabIn (off := 1438) 1471 (pc := 33) C dL_law_33 c37 (by decide) (by decide) (by decide) (by decide) ?_
        exact la_37 C hs hj hL o37 tl T M w hRL hT
      by_cases c38 : v = 38
      · refine r_tabIn (off := 1461) 1494 (pc := 33) C dL_law_33 c38 (by decide) (by decide) (by decide) (by decide) ?_
        exact la_38 C hs hj hL o38 tl T M w hRL hT
      by_cases c39 : v = 39
      · refine r_tabIn (off := 1504) 1537 (pc := 33) C dL_law_33 c39 (by decide) (by decide) (by decide) (by decide) ?_
        exact la_39 C hs hj hL o39 tl T M w hRL hT
      by_cases c40 : v = 40
      · refine r_tabIn (off := 1547) 1580 (pc := 33) C dL_law_33 c40 (by decide) (by decide) (by decide) (by decide) ?_
        exact la_40 C hs hj hL o40 tl T M w hRL hT
      by_cases c41 : v = 41
      · refine r_tabIn (off := 1600) 1633 (pc := 33) C dL_law_33 c41 (by decide) (by decide) (by decide) (by decide) ?_
        exact la_41 C hs hj hL o41 tl T M w hRL hT
      by_cases c42 : v = 42
      · refine r_tabIn (off := 1623) 1656 (pc := 33) C dL_law_33 c42 (by decide) (by decide) (by decide) (by decide) ?_
        exact la_42 C hs hj hL o42 tl T M w hRL hT
      by_cases c43 : v = 43
      · refine r_tabIn (off := 1656) 1689 (pc := 33) C dL_law_33 c43 (by decide) (by decide) (by decide) (by decide) ?_
        exact la_43 C hs hj hL o43 tl T M w hRL hT
      by_cases c44 : v = 44
      · refine r_tabIn (off := 1679) 1712 (pc := 33) C dL_law_33 c44 (by decide) (by decide) (by decide) (by decide) ?_
        exact la_44 C hs hj hL o44 tl T M w hRL hT
      by_cases c45 : v = 45
      · refine r_tabIn (off := 1722) 1755 (pc := 33) C dL_law_33 c45 (by decide) (by decide) (by decide) (by decide) ?_
        exact la_45 C hs hj hL o45 tl T M w hRL hT
      by_cases c46 : v = 46
      · refine r_tabIn (off := 1735) 1768 (pc := 33) C dL_law_33 c46 (by decide) (by decide) (by decide) (by decide) ?_
        exact la_46 C hs hj hL o46 tl T M w hRL hT
      by_cases c47 : v = 47
      · refine r_tabIn (off := 1778) 1811 (pc := 33) C dL_law_33 c47 (by decide) (by decide) (by decide) (by decide) ?_
        exact la_47 C hs hj hL o47 tl T M w hRL hT
      refine r_tabDef 1834 (pc := 33) C dL_law_33 (by decide) (fun i hi => ?_) (by decide) ?_
      · match i, hi with
        | 0, _ => exact Or.inr (lv_neT c0 (by decide))
        | 1, _ => exact Or.inr (lv_neT c1 (by decide))
        | 2, _ => exact Or.inr (lv_neT c2 (by decide))
        | 3, _ => exact Or.inr (lv_neT c3 (by decide))
        | 4, _ => exact Or.inr (lv_neT c4 (by decide))
        | 5, _ => exact Or.inr (lv_neT c5 (by decide))
        | 6, _ => exact Or.inr (lv_neT c6 (by decide))
        | 7, _ => exact Or.inr (lv_neT c7 (by decide))
        | 8, _ => exact Or.inr (lv_neT c8 (by decide))
        | 9, _ => exact Or.inr (lv_neT c9 (by decide))
        | 10, _ => exact Or.inr (lv_neT c10 (by decide))
        | 11, _ => exact Or.inr (lv_neT c11 (by decide))
        | 12, _ => exact Or.inr (lv_neT c12 (by decide))
        | 13, _ => exact Or.inr (lv_neT c13 (by decide))
        | 14, _ => exact Or.inr (lv_neT c14 (by decide))
        | 15, _ => exact Or.inr (lv_neT c15 (by decide))
        | 16, _ => exact Or.inr (lv_neT c16 (by decide))
        | 17, _ => exact Or.inr (lv_neT c17 (by decide))
        | 18, _ => exact Or.inr (lv_neT c18 (by decide))
        | 19, _ => exact Or.inr (lv_neT c19 (by decide))
        | 20, _ => exact Or.inr (lv_neT c20 (by decide))
        | 21, _ => exact Or.inr (lv_neT c21 (by decide))
        | 22, _ => exact Or.inr (lv_neT c22 (by decide))
        | 23, _ => exact Or.inr (lv_neT c23 (by decide))
        | 24, _ => exact Or.inr (lv_neT c24 (by decide))
        | 25, _ => exact Or.inr (lv_neT c25 (by decide))
        | 26, _ => exact Or.inr (lv_neT c26 (by decide))
        | 27, _ => exact Or.inr (lv_neT c27 (by decide))
        | 28, _ => exact Or.inr (lv_neT c28 (by decide))
        | 29, _ => exact Or.inr (lv_neT c29 (by decide))
        | 30, _ => exact Or.inr (lv_neT c30 (by decide))
        | 31, _ => exact Or.inr (lv_neT c31 (by decide))
        | 32, _ => exact Or.inr (lv_neT c32 (by decide))
        | 33, _ => exact Or.inr (lv_neT c33 (by decide))
        | 34, _ => exact Or.inr (lv_neT c34 (by decide))
        | 35, _ => exact Or.inr (lv_neT c35 (by decide))
        | 36, _ => exact Or.inr (lv_neT c36 (by decide))
        | 37, _ => exact Or.inr (lv_neT c37 (by decide))
        | 38, _ => exact Or.inr (lv_neT c38 (by decide))
        | 39, _ => exact Or.inr (lv_neT c39 (by decide))
        | 40, _ => exact Or.inr (lv_neT c40 (by decide))
        | 41, _ => exact Or.inr (lv_neT c41 (by decide))
        | 42, _ => exact Or.inr (lv_neT c42 (by decide))
        | 43, _ => exact Or.inr (lv_neT c43 (by decide))
        | 44, _ => exact Or.inr (lv_neT c44 (by decide))
        | 45, _ => exact Or.inr (lv_neT c45 (by decide))
        | 46, _ => exact Or.inr (lv_neT c46 (by decide))
        | 47, _ => exact Or.inr (lv_neT c47 (by decide))
        | i + 48, hi => exact absurd hi (by simp)
      refine r_widen (a' := 100 + 30 * (j + 1)) (b' := 22000 + 677 * (j + 1)) (by omega) (by omega) ?_
      exact tl T M w hRL hT
    · refine r_gtT 1840 (pc := 24) C dL_law_24 (by decide) (by rw [fa_ltI]; show (nI L - nI 6).toInt < (nI (6 * j)).toInt; rw [pk_sub_toInt (by omega) (by omega), nI_toInt (by omega)]; omega) ?_
      refine r_iconst (pc := 1840) C dL_law_1840 (v := 1) (by decide) ?_
      exact hR _ _ _ 1841 _ (by omega) (by omega) dL_law_1841
