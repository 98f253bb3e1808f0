abbrev rm_X1_hasMark : Room := { frames := 0, cells := 0, slots := 0, locals := 0 }
theorem kY_X1_hasMark : kY yX1_hasMark cX1_hasMark 2 (some .boolean) 1 := ⟨kw_1_3, kw_4_46, by decide, by decide, by decide +kernel⟩
def f_X1_hasMark (S : CS) (a1 : Int32) : Option (Bool) :=
  (if a1 < 0 then
  some false
 else
  (if (S.1 6) ≤ a1 then
  some false
 else
  some true))
set_option maxRecDepth 100000 in
set_option maxHeartbeats 4000000 in
theorem c_X1_hasMark {g : KG} {q : Nat → Nat} {E : va_W} {S : CS} {a1 : Int32} {r : Bool} (h : f_X1_hasMark S a1 = some r) : ∀ l, kM l yX1_hasMark cX1_hasMark 2 (some .boolean) rm_X1_hasMark g [.ref (q 3), .int a1] (cx g q E S) (cx g q E S) (some (.int (b2 r))) 0 0 := by
  refine k_open_z (own := "MarkChains$Book") (by decide) rfl (Nat.le_of_ble_eq_true rfl) (fun X C hR => ?_)
  refine (?_ : jJ X g (r : Bool) (cx g q E S) 0 0 0 [(0, .ref (q 3)), (1, .int a1)] [] (f_X1_hasMark S a1)) h
  unfold f_X1_hasMark
  refine r_iload_n (pc := 0) C dX1_hasMark_0 1 rfl ?_
  refine r_if_lt 16 (pc := 1) C dX1_hasMark_1 (by decide) ?_ ?_
  · refine r_iconst (pc := 16) C dX1_hasMark_16 (v := 0) (by decide) ?_
    exact r_retPZ hR rfl (pc := 17) dX1_hasMark_17
  · refine r_iload_n (pc := 4) C dX1_hasMark_4 1 rfl ?_
    refine r_aload_n (pc := 5) C dX1_hasMark_5 0 rfl ?_
    refine xg_bk_size (pc := 6) C kw_1_125 dX1_hasMark_6 ?_
    refine r_icmp_ge 16 (pc := 9) C dX1_hasMark_9 (by decide) ?_ ?_
    · refine r_iconst (pc := 16) C dX1_hasMark_16 (v := 0) (by decide) ?_
      exact r_retPZ hR rfl (pc := 17) dX1_hasMark_17
    · refine r_iconst (pc := 12) C dX1_hasMark_12 (v := 1) (by decide) ?_
      refine r_goto 17 (pc := 13) C dX1_hasMark_13 (by decide) ?_
      exact r_retPZ hR rfl (pc := 17) dX1_hasMark_17
abbrev rm_X1_factOf : Room := { frames := 1, cells := 0, slots := 0, locals := 21 }
theorem kY_X1_factOf : kY yX1_factOf cX1_factOf 3 (some .int) 2 := ⟨kw_1_3, kw_4_50, by decide, by decide, by decide +kernel⟩
def f_X1_factOf (S : CS) (a1 : Int32) (a2 : Int32) : Option (Int32) :=
  (if a2 = 0 then
  chk a1 60 (
  some (S.2.1 13 a1.toNatClampNeg))
 else
  (if a2 = 1 then
  chk a1 60 (
  some (S.2.1 14 a1.toNatClampNeg))
 else
  (if a2 = 2 then
  chk a1 60 (
  some (S.2.1 15 a1.toNatClampNeg))
 else
  (if a2 = 3 then
  chk a1 60 (
  some (S.2.1 16 a1.toNatClampNeg))
 else
  (if a2 = 4 then
  chk a1 60 (
  some (S.2.1 17 a1.toNatClampNeg))
 else
  (if a2 = 5 then
  chk a1 60 (
  some (S.2.1 18 a1.toNatClampNeg))
 else
  (if a2 = 6 then
  chk a1 60 (
  some (S.2.1 19 a1.toNatClampNeg))
 else
  (if a2 = 7 then
  chk a1 60 (
  some (S.2.1 20 a1.toNatClampNeg))
 else
  (if a2 = 8 then
  chk a1 60 (
  some (S.2.1 21 a1.toNatClampNeg))
 else
  (if a2 = 9 then
  bp (f_X1_ageOf S a1) (fun x1 =>
  some x1)
 else
  (if a2 = 10 then
  chk a1 60 (
  some (S.2.1 22 a1.toNatClampNeg))
 else
  (if a2 = 11 then
  chk a1 60 (
  some (S.2.1 23 a1.toNatClampNeg))
 else
  some (-1000000)))))))))))))
set_option maxRecDepth 100000 in
set_option maxHeartbeats 4000000 in
theorem c_X1_factOf {g : KG} {q : Nat → Nat} {E : va_W} {S : CS} {a1 : Int32} {a2 : Int32} {r : Int32} (h : f_X1_factOf S a1 a2 = some r) : ∀ l, kM l yX1_factOf cX1_factOf 3 (some .int) rm_X1_factOf g [.ref (q 3), .int a1, .int a2] (cx g q E S) (cx g q E S) (some (.int r)) 0 0 := by
  refine k_open_i (own := "MarkChains$Book") (by decide) rfl (Nat.le_of_ble_eq_true rfl) (fun X C hR => ?_)
  refine (?_ : jJ X g (r : Int32) (cx g q E S) 0 0 0 [(0, .ref (q 3)), (1, .int a1), (2, .int a2)] [] (f_X1_factOf S a1 a2)) h
  unfold f_X1_factOf
  refine r_iload_n (pc := 0) C dX1_factOf_0 2 rfl ?_
  refine r_case (fun h1_0 => ?_) (fun h1_0 => ?_)
  · refine r_tabIn (off := 63) 64 (pc := 1) C dX1_factOf_1 h1_0 (by decide) (by decide) (by decide) (by decide) ?_
    refine r_aload_n (pc := 64) C dX1_factOf_64 0 rfl ?_
    refine xg_bk_event (pc := 65) C kw_1_101 dX1_factOf_65 ?_
    refine r_iload_n (pc := 68) C dX1_factOf_68 1 rfl ?_
    refine xl_bk_event (pc := 69) C dX1_factOf_69 ?_
    exact r_retPI hR (pc := 70) dX1_factOf_70
  · refine r_case (fun h1_1 => ?_) (fun h1_1 => ?_)
    · refine r_tabIn (off := 70) 71 (pc := 1) C dX1_factOf_1 h1_1 (by decide) (by decide) (by decide) (by decide) ?_
      refine r_aload_n (pc := 71) C dX1_factOf_71 0 rfl ?_
      refine xg_bk_athlete (pc := 72) C kw_1_103 dX1_factOf_72 ?_
      refine r_iload_n (pc := 75) C dX1_factOf_75 1 rfl ?_
      refine xl_bk_athlete (pc := 76) C dX1_factOf_76 ?_
      exact r_retPI hR (pc := 77) dX1_factOf_77
    · refine r_case (fun h1_2 => ?_) (fun h1_2 => ?_)
      · refine r_tabIn (off := 77) 78 (pc := 1) C dX1_factOf_1 h1_2 (by decide) (by decide) (by decide) (by decide) ?_
        refine r_aload_n (pc := 78) C dX1_factOf_78 0 rfl ?_
        refine xg_bk_place (pc := 79) C kw_1_106 dX1_factOf_79 ?_
        refine r_iload_n (pc := 82) C dX1_factOf_82 1 rfl ?_
        refine xl_bk_place (pc := 83) C dX1_factOf_83 ?_
        exact r_retPI hR (pc := 84) dX1_factOf_84
      · refine r_case (fun h1_3 => ?_) (fun h1_3 => ?_)
        · refine r_tabIn (off := 84) 85 (pc := 1) C dX1_factOf_1 h1_3 (by decide) (by decide) (by decide) (by decide) ?_
          refine r_aload_n (pc := 85) C dX1_factOf_85 0 rfl ?_
          refine xg_bk_day (pc := 86) C kw_1_107 dX1_factOf_86 ?_
          refine r_iload_n (pc := 89) C dX1_factOf_89 1 rfl ?_
          refine xl_bk_day (pc := 90) C dX1_factOf_90 ?_
          exact r_retPI hR (pc := 91) dX1_factOf_91
        · refine r_case (fun h1_4 => ?_) (fun h1_4 => ?_)
          · refine r_tabIn (off := 91) 92 (pc := 1) C dX1_factOf_1 h1_4 (by decide) (by decide) (by decide) (by decide) ?_
            refine r_aload_n (pc := 92) C dX1_factOf_92 0 rfl ?_
            refine xg_bk_minute (pc := 93) C kw_1_110 dX1_factOf_93 ?_
            refine r_iload_n (pc := 96) C dX1_factOf_96 1 rfl ?_
            refine xl_bk_minute (pc := 97) C dX1_factOf_97 ?_
            exact r_retPI hR (pc := 98) dX1_factOf_98
          · refine r_case (fun h1_5 => ?_) (fun h1_5 => ?_)
            · refine r_tabIn (off := 98) 99 (pc := 1) C dX1_factOf_1 h1_5 (by decide) (by decide) (by decide) (by decide) ?_
              refine r_aload_n (pc := 99) C dX1_factOf_99 0 rfl ?_
              refine xg_bk_value (pc := 100) C kw_1_112 dX1_factOf_100 ?_
              refine r_iload_n (pc := 103) C dX1_factOf_103 1 rfl ?_
              refine xl_bk_value (pc := 104) C dX1_factOf_104 ?_
              exact r_retPI hR (pc := 105) dX1_factOf_105
            · refine r_case (fun h1_6 => ?_) (fun h1_6 => ?_)
              · refine r_tabIn (off := 105) 106 (pc := 1) C dX1_factOf_1 h1_6 (by decide) (by decide) (by decide) (by decide) ?_
                refine r_aload_n (pc := 106) C dX1_factOf_106 0 rfl ?_
                refine xg_bk_wind (pc := 107) C kw_1_115 dX1_factOf_107 ?_
                refine r_iload_n (pc := 110) C dX1_factOf_110 1 rfl ?_
                refine xl_bk_wind (pc := 111) C dX1_factOf_111 ?_
                exact r_retPI hR (pc := 112) dX1_factOf_112
              · refine r_case (fun h1_7 => ?_) (fun h1_7 => ?_)
                · refine r_tabIn (off := 112) 113 (pc := 1) C dX1_factOf_1 h1_7 (by decide) (by decide) (by decide) (by decide) ?_
                  refine r_aload_n (pc := 113) C dX1_factOf_113 0 rfl ?_
                  refine xg_bk_shoe (pc := 114) C kw_1_116 dX1_factOf_114 ?_
                  refine r_iload_n (pc := 117) C dX1_factOf_117 1 rfl ?_
                  refine xl_bk_shoe (pc := 118) C dX1_factOf_118 ?_
                  exact r_retPI hR (pc := 119) dX1_factOf_119
                · refine r_case (fun h1_8 => ?_) (fun h1_8 => ?_)
                  · refine r_tabIn (off := 119) 120 (pc := 1) C dX1_factOf_1 h1_8 (by decide) (by decide) (by decide) (by decide) ?_
                    refine r_aload_n (pc := 120) C dX1_factOf_120 0 rfl ?_
                    refine xg_bk_papers (pc := 121) C kw_1_117 dX1_factOf_121 ?_
                    refine r_iload_n (pc := 124) C dX1_factOf_124 1 rfl ?_
                    refine xl_bk_papers (pc := 125) C dX1_factOf_125 ?_
                    exact r_retPI hR (pc := 126) dX1_factOf_126
                  · refine r_case (fun h1_9 => ?_) (fun h1_9 => ?_)
                    · refine r_tabIn (off := 126) 127 (pc := 1) C dX1_factOf_1 h1_9 (by decide) (by decide) (by decide) (by decide) ?_
                      refine r_aload_n (pc := 127) C dX1_factOf_127 0 rfl ?_
                      refine r_iload_n (pc := 128) C dX1_factOf_128 1 rfl ?_
                      refine r_cVpi (As := [.int a1]) (st := []) (pc := 129) C (fun _ h => c_X1_ageOf h) kY_X1_ageOf kw_4_25 kw_4_26 kw_4_24 rfl ⟨Nat.le_of_ble_eq_true rfl, Nat.le_of_ble_eq_true rfl⟩ rfl rfl ⟨Nat.zero_le _, Nat.zero_le _⟩ 3 rfl rfl rfl (Nat.le_of_ble_eq_true rfl) dX1_factOf_129 (fun x1 => ?_)
                      exact r_retPI hR (pc := 132) dX1_factOf_132
                    · refine r_case (fun h1_10 => ?_) (fun h1_10 => ?_)
                      · refine r_tabIn (off := 132) 133 (pc := 1) C dX1_factOf_1 h1_10 (by decide) (by decide) (by decide) (by decide) ?_
                        refine r_aload_n (pc := 133) C dX1_factOf_133 0 rfl ?_
                        refine xg_bk_ratified (pc := 134) C kw_1_119 dX1_factOf_134 ?_
                        refine r_iload_n (pc := 137) C dX1_factOf_137 1 rfl ?_
                        refine xl_bk_ratified (pc := 138) C dX1_factOf_138 ?_
                        exact r_retPI hR (pc := 139) dX1_factOf_139
                      · refine r_case (fun h1_11 => ?_) (fun h1_11 => ?_)
                        · refine r_tabIn (off := 139) 140 (pc := 1) C dX1_factOf_1 h1_11 (by decide) (by decide) (by decide) (by decide) ?_
                          refine r_aload_n (pc := 140) C dX1_factOf_140 0 rfl ?_
                          refine xg_bk_struck (pc := 141) C kw_1_121 dX1_factOf_141 ?_
                          refine r_iload_n (pc := 144) C dX1_factOf_144 1 rfl ?_
                          refine xl_bk_struck (pc := 145) C dX1_factOf_145 ?_
                          exact r_retPI hR (pc := 146) dX1_factOf_146
                        · refine r_tabDef 147 (pc := 1) C dX1_factOf_1 (by decide) (fun j hj => ?_) (by decide) ?_
                          · match j, hj with
                            | 0, _ => exact Or.inr (lv_neT h1_0 (by decide))
                            | 1, _ => exact Or.inr (lv_neT h1_1 (by decide))
                            | 2, _ => exact Or.inr (lv_neT h1_2 (by decide))
                            | 3, _ => exact Or.inr (lv_neT h1_3 (by decide))
                            | 4, _ => exact Or.inr (lv_neT h1_4 (by decide))
                            | 5, _ => exact Or.inr (lv_neT h1_5 (by decide))
                            | 6, _ => exact Or.inr (lv_neT h1_6 (by decide))
                            | 7, _ => exact Or.inr (lv_neT h1_7 (by decide))
                            | 8, _ => exact Or.inr (lv_neT h1_8 (by decide))
                            | 9, _ => exact Or.inr (lv_neT h1_9 (by decide))
                            | 10, _ => exact Or.inr (lv_neT h1_10 (by decide))
                            | 11, _ => exact Or.inr (lv_neT h1_11 (by decide))
                            | j + 12, hj => exact absurd hj (by simp)
                          · refine r_ldc (pc := 147) C dX1_factOf_147 kw_4_51 ?_
                            exact r_retPI hR (pc := 149) dX1_factOf_149
abbrev rm_X11_mark : Room := { frames := 2, cells := 0, slots := 0, locals := 43 }
theorem kY_X11_mark : kY yX11_mark cX11_mark 3 (some .int) 2 := ⟨kw_1_1, kw_4_42, by decide, by decide, by decide +kernel⟩
def f_X11_mark (S : CS) (a1 : Int32) (a2 : Int32) : Option (Int32) :=
  bp (f_X1_hasMark S a1) (fun x1 =>
  (if x1 = true then
  bp (f_X1_factOf S a1 a2) (fun x2 =>
  some x2)
 else
  some (-1000000)))
set_option maxRecDepth 100000 in
set_option maxHeartbeats 4000000 in
theorem c_X11_mark {g : KG} {q : Nat → Nat} {E : va_W} {S : CS} {a1 : Int32} {a2 : Int32} {r : Int32} (h : f_X11_mark S a1 a2 = some r) : ∀ l, kM l yX11_mark cX11_mark 3 (some .int) rm_X11_mark g [.ref (q 0), .int a1, .int a2] (cx g q E S) (cx g q E S) (some (.int r)) 0 0 := by
  refine k_open_i (own := "MarkChains") (by decide) rfl (Nat.le_of_ble_eq_true rfl) (fun X C hR => ?_)
  refine (?_ : jJ X g (r : Int32) (cx g q E S) 0 0 0 [(0, .ref (q 0)), (1, .int a1), (2, .int a2)] [] (f_X11_mark S a1 a2)) h
  unfold f_X11_mark
  refine r_aload_n (pc := 0) C dX11_mark_0 0 rfl ?_
  refine xg_x_book (pc := 1) C kw_2_75 dX11_mark_1 ?_
  refine r_iload_n (pc := 4) C dX11_mark_4 1 rfl ?_
  refine r_cVpz (As := [.int a1]) (st := []) (pc := 5) C (fun _ h => c_X1_hasMark h) kY_X1_hasMark kw_4_44 kw_4_45 kw_4_43 rfl ⟨Nat.le_of_ble_eq_true rfl, Nat.le_of_ble_eq_true rfl⟩ rfl rfl ⟨Nat.zero_le _, Nat.zero_le _⟩ 3 rfl rfl rfl (Nat.le_of_ble_eq_true rfl) dX11_mark_5 (fun x1 => ?_)
  refine r_ifb_eq 23 (pc := 8) C dX11_mark_8 (by decide) ?_ ?_
  · refine r_ldc (pc := 23) C dX11_mark_23 kw_4_52 ?_
    exact r_retPI hR (pc := 25) dX11_mark_25
  · refine r_aload_n (pc := 11) C dX11_mark_11 0 rfl ?_
    refine xg_x_book (pc := 12) C kw_2_75 dX11_mark_12 ?_
    refine r_iload_n (pc := 15) C dX11_mark_15 1 rfl ?_
    refine r_iload_n (pc := 16) C dX11_mark_16 2 rfl ?_
    refine r_cVpi (As := [.int a1, .int a2]) (st := []) (pc := 17) C (fun _ h => c_X1_factOf h) kY_X1_factOf kw_4_48 kw_4_49 kw_4_47 rfl ⟨Nat.le_of_ble_eq_true rfl, Nat.le_of_ble_eq_true rfl⟩ rfl rfl ⟨Nat.zero_le _, Nat.zero_le _⟩ 3 rfl rfl rfl (Nat.le_of_ble_eq_true rfl) dX11_mark_17 (fun x2 => ?_)
    refine r_goto 25 (pc := 20) C dX11_mark_20 (by decide) ?_
    exact r_retPI hR (pc := 25) dX11_mark_25
abbrev rm_X11_told : Room := { frames := 1, cells := 0, slots := 0, locals := 21 }
theorem kY_X11_told : kY yX11_told cX11_told 5 (some .int) 3 := ⟨kw_1_1, kw_4_56, by decide, by decide, by decide +kernel⟩
def f_X11_told (S : CS) (a1 : Int32) (a2 : Int32) (a3 : Int32) : Option (Int32) :=
  (if a1 = 0 then
  bp (f_X8_has_pe S a2) (fun x1 =>
  (if x1 = true then
  (if a3 < 0 then
  some (-1000000)
 else
  (if a3 < 2 then
  (if a3 = 0 then
  chk a2 6 (
  some (S.2.1 5 a2.toNatClampNeg))
 else
  chk a2 6 (
  some (S.2.1 6 a2.toNatClampNeg)))
 else
  some (-1000000)))
 else
  some (-1000000)))
 else (if a1 = 1 then
  bp (f_X8_has_pp S a2) (fun x2 =>
  (if x2 = true then
  (if a3 < 0 then
  some (-1000000)
 else
  (if a3 < 2 then
  (if a3 = 0 then
  chk a2 8 (
  some (S.2.1 8 a2.toNatClampNeg))
 else
  chk a2 8 (
  some (S.2.1 9 a2.toNatClampNeg)))
 else
  some (-1000000)))
 else
  some (-1000000)))
 else (if a1 = 2 then
  bp (f_X8_has_pa S a2) (fun x3 =>
  (if x3 = true then
  (if a3 < 0 then
  some (-1000000)
 else
  (if a3 < 2 then
  (if a3 = 0 then
  chk a2 16 (
  some (S.2.1 11 a2.toNatClampNeg))
 else
  chk a2 16 (
  some (S.2.1 12 a2.toNatClampNeg)))
 else
  some (-1000000)))
 else
  some (-1000000)))
 else
  some (-1000000))))
set_option maxRecDepth 100000 in
set_option maxHeartbeats 4000000 in
theorem c_X11_told {g : KG} {q : Nat → Nat} {E : va_W} {S : CS} {a1 : Int32} {a2 : Int32} {a3 : Int32} {r : Int32} (h : f_X11_told S a1 a2 a3 = some r) : ∀ l, kM l yX11_told cX11_told 5 (some .int) rm_X11_told g [.ref (q 0), .int a1, .int a2, .int a3] (cx g q E S) (cx g q E S) (some (.int r)) 0 0 := by
  refine k_open_i (own := "MarkChains") (by decide) rfl (Nat.le_of_ble_eq_true rfl) (fun X C hR => ?_)
  refine (?_ : jJ X g (r : Int32) (cx g q E S) 0 0 0 [(0, .ref (q 0)), (1, .int a1), (2, .int a2), (3, .int a3)] [] (f_X11_told S a1 a2 a3)) h
  unfold f_X11_told
  refine r_aload_n (pc := 0) C dX11_told_0 0 rfl ?_
  refine xg_x_book (pc := 1) C kw_2_75 dX11_told_1 ?_
  refine r_iload_n (pc := 4) C dX11_told_4 1 rfl ?_
  refine r_case (fun h5_0 => ?_) (fun h5_0 => ?_)
  · refine r_cVpr (As := [.int a1]) (st := []) (pc := 5) C (c_X1_pairsOf_0 h5_0) kY_X1_pairsOf kw_3_4 kw_3_5 kw_4_57 rfl ⟨Nat.le_of_ble_eq_true rfl, Nat.le_of_ble_eq_true rfl⟩ rfl rfl ⟨Nat.zero_le _, Nat.zero_le _⟩ 3 rfl rfl rfl (Nat.le_of_ble_eq_true rfl) dX11_told_5 ?_
    refine r_astore (pc := 8) C dX11_told_8 (lv' := [(0, .ref (q 0)), (1, .int a1), (2, .int a2), (3, .int a3), (4, .ref (q 4))]) (by decide) [1, 2, 3, 4, 0] rfl ?_
    refine r_aload (pc := 10) C dX11_told_10 4 rfl ?_
    refine r_ifnullR (pc := 12) C dX11_told_12 ?_
    refine r_aload (pc := 15) C dX11_told_15 4 rfl ?_
    refine r_iload_n (pc := 17) C dX11_told_17 2 rfl ?_
    refine r_cVpz (As := [.int a2]) (st := []) (pc := 18) C (fun _ h => c_X8_has_pe h) kY_X8_has kw_3_46 kw_3_47 kw_4_58 rfl ⟨Nat.le_of_ble_eq_true rfl, Nat.le_of_ble_eq_true rfl⟩ rfl rfl ⟨Nat.zero_le _, Nat.zero_le _⟩ 4 rfl rfl rfl (Nat.le_of_ble_eq_true rfl) dX11_told_18 (fun x1 => ?_)
    refine r_ifb_eq 33 (pc := 21) C dX11_told_21 (by decide) ?_ ?_
    · refine r_ldc (pc := 33) C dX11_told_33 kw_4_52 ?_
      exact r_retPI hR (pc := 35) dX11_told_35
    · refine r_iload_n (pc := 24) C dX11_told_24 3 rfl ?_
      refine r_if_lt 33 (pc := 25) C dX11_told_25 (by decide) ?_ ?_
      · refine r_ldc (pc := 33) C dX11_told_33 kw_4_52 ?_
        exact r_retPI hR (pc := 35) dX11_told_35
      · refine r_iload_n (pc := 28) C dX11_told_28 3 rfl ?_
        refine r_iconst (pc := 29) C dX11_told_29 (v := 2) (by decide) ?_
        refine r_icmp_lt 36 (pc := 30) C dX11_told_30 (by decide) ?_ ?_
        · refine r_iload_n (pc := 36) C dX11_told_36 3 rfl ?_
          refine r_if_ne 50 (pc := 37) C dX11_told_37 (by decide) ?_ ?_
          · refine r_aload (pc := 50) C dX11_told_50 4 rfl ?_
            refine xgN_pe_second (pc := 52) C knf_7 dX11_told_52 ?_
            refine r_iload_n (pc := 55) C dX11_told_55 2 rfl ?_
            refine xl_pe_second (pc := 56) C dX11_told_56 ?_
            exact r_retPI hR (pc := 57) dX11_told_57
          · refine r_aload (pc := 40) C dX11_told_40 4 rfl ?_
            refine xgN_pe_first (pc := 42) C knf_5 dX11_told_42 ?_
            refine r_iload_n (pc := 45) C dX11_told_45 2 rfl ?_
            refine xl_pe_first (pc := 46) C dX11_told_46 ?_
            refine r_goto 57 (pc := 47) C dX11_told_47 (by decide) ?_
            exact r_retPI hR (pc := 57) dX11_told_57
        · refine r_ldc (pc := 33) C dX11_told_33 kw_4_52 ?_
          exact r_retPI hR (pc := 35) dX11_told_35
  · refine r_case (fun h5_1 => ?_) (fun h5_1 => ?_)
    · refine r_cVpr (As := [.int a1]) (st := []) (pc := 5) C (c_X1_pairsOf_1 h5_1) kY_X1_pairsOf kw_3_4 kw_3_5 kw_4_57 rfl ⟨Nat.le_of_ble_eq_true rfl, Nat.le_of_ble_eq_true rfl⟩ rfl rfl ⟨Nat.zero_le _, Nat.zero_le _⟩ 3 rfl rfl rfl (Nat.le_of_ble_eq_true rfl) dX11_told_5 ?_
      refine r_astore (pc := 8) C dX11_told_8 (lv' := [(0, .ref (q 0)), (1, .int a1), (2, .int a2), (3, .int a3), (4, .ref (q 7))]) (by decide) [1, 2, 3, 4, 0] rfl ?_
      refine r_aload (pc := 10) C dX11_told_10 4 rfl ?_
      refine r_ifnullR (pc := 12) C dX11_told_12 ?_
      refine r_aload (pc := 15) C dX11_told_15 4 rfl ?_
      refine r_iload_n (pc := 17) C dX11_told_17 2 rfl ?_
      refine r_cVpz (As := [.int a2]) (st := []) (pc := 18) C (fun _ h => c_X8_has_pp h) kY_X8_has kw_3_46 kw_3_47 kw_4_58 rfl ⟨Nat.le_of_ble_eq_true rfl, Nat.le_of_ble_eq_true rfl⟩ rfl rfl ⟨Nat.zero_le _, Nat.zero_le _⟩ 7 rfl rfl rfl (Nat.le_of_ble_eq_true rfl) dX11_told_18 (fun x2 => ?_)
      refine r_ifb_eq 33 (pc := 21) C dX11_told_21 (by decide) ?_ ?_
      · refine r_ldc (pc := 33) C dX11_told_33 kw_4_52 ?_
        exact r_retPI hR (pc := 35) dX11_told_35
      · refine r_iload_n (pc := 24) C dX11_told_24 3 rfl ?_
        refine r_if_lt 33 (pc := 25) C dX11_told_25 (by decide) ?_ ?_
        · refine r_ldc (pc := 33) C dX11_told_33 kw_4_52 ?_
          exact r_retPI hR (pc := 35) dX11_told_35
        · refine r_iload_n (pc := 28) C dX11_told_28 3 rfl ?_
          refine r_iconst (pc := 29) C dX11_told_29 (v := 2) (by decide) ?_
          refine r_icmp_lt 36 (pc := 30) C dX11_told_30 (by decide) ?_ ?_
          · refine r_iload_n (pc := 36) C dX11_told_36 3 rfl ?_
            refine r_if_ne 50 (pc := 37) C dX11_told_37 (by decide) ?_ ?_
            · refine r_aload (pc := 50) C dX11_told_50 4 rfl ?_
              refine xgN_pp_second (pc := 52) C knf_7 dX11_told_52 ?_
              refine r_iload_n (pc := 55) C dX11_told_55 2 rfl ?_
              refine xl_pp_second (pc := 56) C dX11_told_56 ?_
              exact r_retPI hR (pc := 57) dX11_told_57
            · refine r_aload (pc := 40) C dX11_told_40 4 rfl ?_
              refine xgN_pp_first (pc := 42) C knf_5 dX11_told_42 ?_
              refine r_iload_n (pc := 45) C dX11_told_45 2 rfl ?_
              refine xl_pp_first (pc := 46) C dX11_told_46 ?_
              refine r_goto 57 (pc := 47) C dX11_told_47 (by decide) ?_
              exact r_retPI hR (pc := 57) dX11_told_57
          · refine r_ldc (pc := 33) C dX11_told_33 kw_4_52 ?_
            exact r_retPI hR (pc := 35) dX11_told_35
    · refine r_case (fun h5_2 => ?_) (fun h5_2 => ?_)
      · refine r_cVpr (As := [.int a1]) (st := []) (pc := 5) C (c_X1_pairsOf_2 h5_2) kY_X1_pairsOf kw_3_4 kw_3_5 kw_4_57 rfl ⟨Nat.le_of_ble_eq_true rfl, Nat.le_of_ble_eq_true rfl⟩ rfl rfl ⟨Nat.zero_le _, Nat.zero_le _⟩ 3 rfl rfl rfl (Nat.le_of_ble_eq_true rfl) dX11_told_5 ?_
        refine r_astore (pc := 8) C dX11_told_8 (lv' := [(0, .ref (q 0)), (1, .int a1), (2, .int a2), (3, .int a3), (4, .ref (q 10))]) (by decide) [1, 2, 3, 4, 0] rfl ?_
        refine r_aload (pc := 10) C dX11_told_10 4 rfl ?_
        refine r_ifnullR (pc := 12) C dX11_told_12 ?_
        refine r_aload (pc := 15) C dX11_told_15 4 rfl ?_
        refine r_iload_n (pc := 17) C dX11_told_17 2 rfl ?_
        refine r_cVpz (As := [.int a2]) (st := []) (pc := 18) C (fun _ h => c_X8_has_pa h) kY_X8_has kw_3_46 kw_3_47 kw_4_58 rfl ⟨Nat.le_of_ble_eq_true rfl, Nat.le_of_ble_eq_true rfl⟩ rfl rfl ⟨Nat.zero_le _, Nat.zero_le _⟩ 10 rfl rfl rfl (Nat.le_of_ble_eq_true rfl) dX11_told_18 (fun x3 => ?_)
        refine r_ifb_eq 33 (pc := 21) C dX11_told_21 (by decide) ?_ ?_
        · refine r_ldc (pc := 33) C dX11_told_33 kw_4_52 ?_
          exact r_retPI hR (pc := 35) dX11_told_35
        · refine r_iload_n (pc := 24) C dX11_told_24 3 rfl ?_
          refine r_if_lt 33 (pc := 25) C dX11_told_25 (by decide) ?_ ?_
          · refine r_ldc (pc := 33) C dX11_told_33 kw_4_52 ?_
            exact r_retPI hR (pc := 35) dX11_told_35
          · refine r_iload_n (pc := 28) C dX11_told_28 3 rfl ?_
            refine r_iconst (pc := 29) C dX11_told_29 (v := 2) (by decide) ?_
            refine r_icmp_lt 36 (pc := 30) C dX11_told_30 (by decide) ?_ ?_
            · refine r_iload_n (pc := 36) C dX11_told_36 3 rfl ?_
              refine r_if_ne 50 (pc := 37) C dX11_told_37 (by decide) ?_ ?_
              · refine r_aload (pc := 50) C dX11_told_50 4 rfl ?_
                refine xgN_pa_second (pc := 52) C knf_7 dX11_told_52 ?_
                refine r_iload_n (pc := 55) C dX11_told_55 2 rfl ?_
                refine xl_pa_second (pc := 56) C dX11_told_56 ?_
                exact r_retPI hR (pc := 57) dX11_told_57
              · refine r_aload (pc := 40) C dX11_told_40 4 rfl ?_
                refine xgN_pa_first (pc := 42) C knf_5 dX11_told_42 ?_
                refine r_iload_n (pc := 45) C dX11_told_45 2 rfl ?_
                refine xl_pa_first (pc := 46) C dX11_told_46 ?_
                refine r_goto 57 (pc := 47) C dX11_told_47 (by decide) ?_
                exact r_retPI hR (pc := 57) dX11_told_57
            · refine r_ldc (pc := 33) C dX11_told_33 kw_4_52 ?_
              exact r_retPI hR (pc := 35) dX11_told_35
      · refine r_cVpr (As := [.int a1]) (st := []) (pc := 5) C (c_X1_pairsOf_3 h5_0 h5_1 h5_2) kY_X1_pairsOf kw_3_4 kw_3_5 kw_4_57 rfl ⟨Nat.le_of_ble_eq_true rfl, Nat.le_of_ble_eq_true rfl⟩ rfl rfl ⟨Nat.zero_le _, Nat.zero_le _⟩ 3 rfl rfl rfl (Nat.le_of_ble_eq_true rfl) dX11_told_5 ?_
        refine r_astoreN (pc := 8) C dX11_told_8 (lv' := [(0, .ref (q 0)), (1, .int a1), (2, .int a2), (3, .int a3), (4, .null)]) (by decide) [1, 2, 3, 4, 0] rfl ?_
        refine r_aloadN (pc := 10) C dX11_told_10 4 rfl ?_
        refine r_ifnullN 33 (pc := 12) C dX11_told_12 (by decide) ?_
        refine r_ldc (pc := 33) C dX11_told_33 kw_4_52 ?_
        exact r_retPI hR (pc := 35) dX11_told_35
abbrev rm_X11_good : Room := { frames := 4, cells := 0, slots := 0, locals := 94 }
theorem kY_X11_good : kY yX11_good cX11_good 2 (some .int) 1 := ⟨kw_1_1, kw_4_62, by decide, by decide, by decide +kernel⟩
def f_X11_good (S : CS) (a1 : Int32) : Option (Int32 × CS) :=
  bp (f_X1_hasMark S a1) (fun x1 =>
  (if x1 = true then
  chk a1 60 (
  bw (f_X11_lackOf S a1 (S.2.1 21 a1.toNatClampNeg)) (fun x2 S3 =>
  some (x2, S3)))
 else
  some ((-2), S)))
set_option maxRecDepth 100000 in
set_option maxHeartbeats 4000000 in
theorem c_X11_good {g : KG} {q : Nat → Nat} {E : va_W} {S : CS} {a1 : Int32} {r : Int32} {S' : CS} (h : f_X11_good S a1 = some (r, S')) : ∀ l, kM l yX11_good cX11_good 2 (some .int) rm_X11_good g [.ref (q 0), .int a1] (cx g q E S) (cx g q E S') (some (.int r)) 0 0 := by
  refine k_open_i (own := "MarkChains") (by decide) rfl (Nat.le_of_ble_eq_true rfl) (fun X C hR => ?_)
  refine (?_ : jJ X g ((r, S') : Int32 × CS) (cx g q E S) 0 0 0 [(0, .ref (q 0)), (1, .int a1)] [] (f_X11_good S a1)) h
  unfold f_X11_good
  refine r_aload_n (pc := 0) C dX11_good_0 0 rfl ?_
  refine xg_x_book (pc := 1) C kw_2_75 dX11_good_1 ?_
  refine r_iload_n (pc := 4) C dX11_good_4 1 rfl ?_
  refine r_cVpz (As := [.int a1]) (st := []) (pc := 5) C (fun _ h => c_X1_hasMark h) kY_X1_hasMark kw_4_44 kw_4_45 kw_4_43 rfl ⟨Nat.le_of_ble_eq_true rfl, Nat.le_of_ble_eq_true rfl⟩ rfl rfl ⟨Nat.zero_le _, Nat.zero_le _⟩ 3 rfl rfl rfl (Nat.le_of_ble_eq_true rfl) dX11_good_5 (fun x1 => ?_)
  refine r_ifb_eq 28 (pc := 8) C dX11_good_8 (by decide) ?_ ?_
  · refine r_bipush (pc := 28) C dX11_good_28 (v := (-2)) (by decide) ?_
    exact r_retWI (wf := cx g q E) hR (pc := 30) dX11_good_30
  · refine r_aload_n (pc := 11) C dX11_good_11 0 rfl ?_
    refine r_iload_n (pc := 12) C dX11_good_12 1 rfl ?_
    refine r_aload_n (pc := 13) C dX11_good_13 0 rfl ?_
    refine xg_x_book (pc := 14) C kw_2_75 dX11_good_14 ?_
    refine xgN_bk_papers (pc := 17) C knf_25 dX11_good_17 ?_
    refine r_iload_n (pc := 20) C dX11_good_20 1 rfl ?_
    refine xl_bk_papers (pc := 21) C dX11_good_21 ?_
    refine r_cVwi (As := [.int a1, .int (S.2.1 21 a1.toNatClampNeg)]) (st := []) (wf := cx g q E) (pc := 22) C (fun _ _ h => c_X11_lackOf h) kY_X11_lackOf kw_4_10 kw_0_20 kw_4_8 rfl ⟨Nat.le_of_ble_eq_true rfl, Nat.le_of_ble_eq_true rfl⟩ rfl rfl ⟨Nat.zero_le _, Nat.zero_le _⟩ 0 rfl rfl rfl (Nat.le_of_ble_eq_true rfl) dX11_good_22 (fun x2 S3 => ?_)
    refine r_goto 30 (pc := 25) C dX11_good_25 (by decide) ?_
    exact r_retWI (wf := cx g q E) hR (pc := 30) dX11_good_30
set_option maxRecDepth 100000 in
theorem w_X11_good {S : CS} {a1 : Int32} {r : Int32} {S' : CS} (h : f_X11_good S a1 = some (r, S')) : gI [24] [48] S S' := by
  have hS : gI [24] [48] S S := gI_rf
  refine (?_ : jf (gI [24] [48] S) Prod.snd (f_X11_good S a1)) _ h
  unfold f_X11_good
  refine f_bp (fun x1 => ?_)
  refine f_ite ?_ ?_
  · refine f_chk ?_
    refine f_bwS (fun _ _ h => gI_tr hS (w_X11_lackOf h) (by decide) (by decide)) (fun x2 S3 hS3 => ?_)
    exact f_some hS3
  · exact f_some hS
abbrev rm_X11_isScope : Room := { frames := 0, cells := 0, slots := 0, locals := 0 }
theorem kY_X11_isScope : kY yX11_isScope cX11_isScope 1 (some .boolean) 1 := ⟨kw_1_1, kw_4_94, by decide, by decide, by decide +kernel⟩
def f_X11_isScope (a0 : Int32) : Option (Bool) :=
  (if a0 < 0 then
  some false
 else
  (if 21 < a0 then
  some false
 else
  some true))
set_option maxRecDepth 100000 in
set_option maxHeartbeats 4000000 in
theorem c_X11_isScope {g : KG} {ws : va_W} {a0 : Int32} {r : Bool} (h : f_X11_isScope a0 = some r) : ∀ l, kM l yX11_isScope cX11_isScope 1 (some .boolean) rm_X11_isScope g [.int a0] (ws) (ws) (some (.int (b2 r))) 0 0 := by
  refine k_open_z (own := "MarkChains") (by decide) rfl (Nat.le_of_ble_eq_true rfl) (fun X C hR => ?_)
  refine (?_ : jJ X g (r : Bool) (ws) 0 0 0 [(0, .int a0)] [] (f_X11_isScope a0)) h
  unfold f_X11_isScope
  refine r_iload_n (pc := 0) C dX11_isScope_0 0 rfl ?_
  refine r_if_lt 14 (pc := 1) C dX11_isScope_1 (by decide) ?_ ?_
  · refine r_iconst (pc := 14) C dX11_isScope_14 (v := 0) (by decide) ?_
    exact r_retPZ hR rfl (pc := 15) dX11_isScope_15
  · refine r_iload_n (pc := 4) C dX11_isScope_4 0 rfl ?_
    refine r_bipush (pc := 5) C dX11_isScope_5 (v := 21) (by decide) ?_
    refine r_icmp_gt 14 (pc := 7) C dX11_isScope_7 (by decide) ?_ ?_
    · refine r_iconst (pc := 14) C dX11_isScope_14 (v := 0) (by decide) ?_
      exact r_retPZ hR rfl (pc := 15) dX11_isScope_15
    · refine r_iconst (pc := 10) C dX11_isScope_10 (v := 1) (by decide) ?_
      refine r_goto 15 (pc := 11) C dX11_isScope_11 (by decide) ?_
      exact r_retPZ hR rfl (pc := 15) dX11_isScope_15
abbrev rm_X11_isMarkAndScope : Room := { frames := 1, cells := 0, slots := 0, locals := 21 }
theorem kY_X11_isMarkAndScope : kY yX11_isMarkAndScope cX11_isMarkAndScope 3 (some .boolean) 2 := ⟨kw_1_1, kw_4_91, by decide, by decide, by decide +kernel⟩
def f_X11_isMarkAndScope (S : CS) (a1 : Int32) (a2 : Int32) : Option (Bool) :=
  bp (f_X1_hasMark S a1) (fun x1 =>
  (if x1 = true then
  bp (f_X11_isScope a2) (fun x2 =>
  (if x2 = true then
  some true
 else
  some false))
 else
  some false))
set_option maxRecDepth 100000 in
set_option maxHeartbeats 4000000 in
theorem c_X11_isMarkAndScope {g : KG} {q : Nat → Nat} {E : va_W} {S : CS} {a1 : Int32} {a2 : Int32} {r : Bool} (h : f_X11_isMarkAndScope S a1 a2 = some r) : ∀ l, kM l yX11_isMarkAndScope cX11_isMarkAndScope 3 (some .boolean) rm_X11_isMarkAndScope g [.ref (q 0), .int a1, .int a2] (cx g q E S) (cx g q E S) (some (.int (b2 r))) 0 0 := by
  refine k_open_z (own := "MarkChains") (by decide) rfl (Nat.le_of_ble_eq_true rfl) (fun X C hR => ?_)
  refine (?_ : jJ X g (r : Bool) (cx g q E S) 0 0 0 [(0, .ref (q 0)), (1, .int a1), (2, .int a2)] [] (f_X11_isMarkAndScope S a1 a2)) h
  unfold f_X11_isMarkAndScope
  refine r_aload_n (pc := 0) C dX11_isMarkAndScope_0 0 rfl ?_
  refine xg_x_book (pc := 1) C kw_2_75 dX11_isMarkAndScope_1 ?_
  refine r_iload_n (pc := 4) C dX11_isMarkAndScope_4 1 rfl ?_
  refine r_cVpz (As := [.int a1]) (st := []) (pc := 5) C (fun _ h => c_X1_hasMark h) kY_X1_hasMark kw_4_44 kw_4_45 kw_4_43 rfl ⟨Nat.le_of_ble_eq_true rfl, Nat.le_of_ble_eq_true rfl⟩ rfl rfl ⟨Nat.zero_le _, Nat.zero_le _⟩ 3 rfl rfl rfl (Nat.le_of_ble_eq_true rfl) dX11_isMarkAndScope_5 (fun x1 => ?_)
  refine r_ifb_eq 22 (pc := 8) C dX11_isMarkAndScope_8 (by decide) ?_ ?_
  · refine r_iconst (pc := 22) C dX11_isMarkAndScope_22 (v := 0) (by decide) ?_
    exact r_retPZ hR rfl (pc := 23) dX11_isMarkAndScope_23
  · refine r_iload_n (pc := 11) C dX11_isMarkAndScope_11 2 rfl ?_
    refine r_cSpz (As := [.int a2]) (st := []) (pc := 12) C (fun _ h => c_X11_isScope h) kY_X11_isScope kw_4_93 kw_4_92 rfl ⟨Nat.le_of_ble_eq_true rfl, Nat.le_of_ble_eq_true rfl⟩ rfl rfl ⟨Nat.zero_le _, Nat.zero_le _⟩ rfl (Nat.le_of_ble_eq_true rfl) dX11_isMarkAndScope_12 (fun x2 => ?_)
    refine r_ifb_eq 22 (pc := 15) C dX11_isMarkAndScope_15 (by decide) ?_ ?_
    · refine r_iconst (pc := 22) C dX11_isMarkAndScope_22 (v := 0) (by decide) ?_
      exact r_retPZ hR rfl (pc := 23) dX11_isMarkAndScope_23
    · refine r_iconst (pc := 18) C dX11_isMarkAndScope_18 (v := 1) (by decide) ?_
      refine r_goto 23 (pc := 19) C dX11_isMarkAndScope_19 (by decide) ?_
      exact r_retPZ hR rfl (pc := 23) dX11_isMarkAndScope_23
abbrev rm_X1_isOfScope : Room := { frames := 1, cells := 0, slots := 0, locals := 21 }
theorem kY_X1_isOfScope : kY yX1_isOfScope cX1_isOfScope 4 (some .boolean) 2 := ⟨kw_1_3, kw_4_98, by decide, by decide, by decide +kernel⟩
def f_X1_isOfScope (S : CS) (a1 : Int32) (a2 : Int32) : Option (Bool) :=
  (if a2 = 0 then
  some true
 else
  (if 6 < a2 then
  (if 14 < a2 then
  chk ((if 21 < a2 then 21 else a2) - 15) 7 (
  lt (sT_1.getD ((if 21 < a2 then 21 else a2) - 15).toNatClampNeg 0) fun x1 =>
  (if 17 < a2 then
  bp (f_X1_ageOf S a1) (fun x2 =>
  (if x2 < x1 then
  some false
 else
  some true))
 else
  bp (f_X1_ageOf S a1) (fun x3 =>
  (if x1 ≤ x3 then
  some false
 else
  some true))))
 else
  chk a1 60 (
  (if (S.2.1 15 a1.toNatClampNeg) = (a2 - 7) then
  some true
 else
  some false)))
 else
  chk a1 60 (
  chk (S.2.1 14 a1.toNatClampNeg) 16 (
  (if (S.2.1 12 (S.2.1 14 a1.toNatClampNeg).toNatClampNeg) = (a2 - 1) then
  some true
 else
  some false)))))
set_option maxRecDepth 100000 in
set_option maxHeartbeats 4000000 in
theorem c_X1_isOfScope {g : KG} {q : Nat → Nat} {E : va_W} {S : CS} {a1 : Int32} {a2 : Int32} {r : Bool} (h : f_X1_isOfScope S a1 a2 = some r) : ∀ l, kM l yX1_isOfScope cX1_isOfScope 4 (some .boolean) rm_X1_isOfScope g [.ref (q 3), .int a1, .int a2] (cx g q E S) (cx g q E S) (some (.int (b2 r))) 0 0 := by
  refine k_open_z (own := "MarkChains$Book") (by decide) rfl (Nat.le_of_ble_eq_true rfl) (fun X C hR => ?_)
  refine (?_ : jJ X g (r : Bool) (cx g q E S) 0 0 0 [(0, .ref (q 3)), (1, .int a1), (2, .int a2)] [] (f_X1_isOfScope S a1 a2)) h
  unfold f_X1_isOfScope
  refine r_iload_n (pc := 0) C dX1_isOfScope_0 2 rfl ?_
  refine r_if_ne 6 (pc := 1) C dX1_isOfScope_1 (by decide) ?_ ?_
  · refine r_iload_n (pc := 6) C dX1_isOfScope_6 2 rfl ?_
    refine r_bipush (pc := 7) C dX1_isOfScope_7 (v := 6) (by decide) ?_
    refine r_icmp_gt 38 (pc := 9) C dX1_isOfScope_9 (by decide) ?_ ?_
    · refine r_iload_n (pc := 38) C dX1_isOfScope_38 2 rfl ?_
      refine r_bipush (pc := 39) C dX1_isOfScope_39 (v := 14) (by decide) ?_
      refine r_icmp_gt 63 (pc := 41) C dX1_isOfScope_41 (by decide) ?_ ?_
      · refine r_gs_1 (pc := 63) C kw_4_99 dX1_isOfScope_63 ?_
        refine r_iload_n (pc := 66) C dX1_isOfScope_66 2 rfl ?_
        refine r_bipush (pc := 67) C dX1_isOfScope_67 (v := 21) (by decide) ?_
        refine r_mmin (st := [.ref (g.2.2.2 1)]) (pc := 69) C kw_3_91 (Nat.le_of_ble_eq_true rfl) (Nat.le_of_ble_eq_true rfl) ⟨Nat.zero_le _, Nat.zero_le _⟩ dX1_isOfScope_69 ?_
        refine r_bipush (pc := 72) C dX1_isOfScope_72 (v := 15) (by decide) ?_
        refine r_isub (pc := 74) C dX1_isOfScope_74 ?_
        refine r_sl_1 (pc := 75) C dX1_isOfScope_75 ?_
        refine r_istoreV_n (pc := 76) C dX1_isOfScope_76 (lv' := fun x1 => [(0, .ref (q 3)), (1, .int a1), (2, .int a2), (3, .int x1)]) (by decide) [1, 2, 3, 0] (fun _ => rfl) (fun x1 => ?_)
        refine r_iload_n (pc := 77) C dX1_isOfScope_77 2 rfl ?_
        refine r_bipush (pc := 78) C dX1_isOfScope_78 (v := 17) (by decide) ?_
        refine r_icmp_gt 100 (pc := 80) C dX1_isOfScope_80 (by decide) ?_ ?_
        · refine r_aload_n (pc := 100) C dX1_isOfScope_100 0 rfl ?_
          refine r_iload_n (pc := 101) C dX1_isOfScope_101 1 rfl ?_
          refine r_cVpi (As := [.int a1]) (st := []) (pc := 102) C (fun _ h => c_X1_ageOf h) kY_X1_ageOf kw_4_25 kw_4_26 kw_4_24 rfl ⟨Nat.le_of_ble_eq_true rfl, Nat.le_of_ble_eq_true rfl⟩ rfl rfl ⟨Nat.zero_le _, Nat.zero_le _⟩ 3 rfl rfl rfl (Nat.le_of_ble_eq_true rfl) dX1_isOfScope_102 (fun x2 => ?_)
          refine r_iload_n (pc := 105) C dX1_isOfScope_105 3 rfl ?_
          refine r_icmp_lt 113 (pc := 106) C dX1_isOfScope_106 (by decide) ?_ ?_
          · refine r_iconst (pc := 113) C dX1_isOfScope_113 (v := 0) (by decide) ?_
            exact r_retPZ hR rfl (pc := 114) dX1_isOfScope_114
          · refine r_iconst (pc := 109) C dX1_isOfScope_109 (v := 1) (by decide) ?_
            refine r_goto 114 (pc := 110) C dX1_isOfScope_110 (by decide) ?_
            exact r_retPZ hR rfl (pc := 114) dX1_isOfScope_114
        · refine r_aload_n (pc := 83) C dX1_isOfScope_83 0 rfl ?_
          refine r_iload_n (pc := 84) C dX1_isOfScope_84 1 rfl ?_
          refine r_cVpi (As := [.int a1]) (st := []) (pc := 85) C (fun _ h => c_X1_ageOf h) kY_X1_ageOf kw_4_25 kw_4_26 kw_4_24 rfl ⟨Nat.le_of_ble_eq_true rfl, Nat.le_of_ble_eq_true rfl⟩ rfl rfl ⟨Nat.zero_le _, Nat.zero_le _⟩ 3 rfl rfl rfl (Nat.le_of_ble_eq_true rfl) dX1_isOfScope_85 (fun x3 => ?_)
          refine r_iload_n (pc := 88) C dX1_isOfScope_88 3 rfl ?_
          refine r_icmp_ge 96 (pc := 89) C dX1_isOfScope_89 (by decide) ?_ ?_
          · refine r_iconst (pc := 96) C dX1_isOfScope_96 (v := 0) (by decide) ?_
            refine r_goto 114 (pc := 97) C dX1_isOfScope_97 (by decide) ?_
            exact r_retPZ hR rfl (pc := 114) dX1_isOfScope_114
          · refine r_iconst (pc := 92) C dX1_isOfScope_92 (v := 1) (by decide) ?_
            refine r_goto 114 (pc := 93) C dX1_isOfScope_93 (by decide) ?_
            exact r_retPZ hR rfl (pc := 114) dX1_isOfScope_114
      · refine r_aload_n (pc := 44) C dX1_isOfScope_44 0 rfl ?_
        refine xg_bk_place (pc := 45) C kw_1_106 dX1_isOfScope_45 ?_
        refine r_iload_n (pc := 48) C dX1_isOfScope_48 1 rfl ?_
        refine xl_bk_place (pc := 49) C dX1_isOfScope_49 ?_
        refine r_iload_n (pc := 50) C dX1_isOfScope_50 2 rfl ?_
        refine r_bipush (pc := 51) C dX1_isOfScope_51 (v := 7) (by decide) ?_
        refine r_isub (pc := 53) C dX1_isOfScope_53 ?_
        refine r_icmp_ne 61 (pc := 54) C dX1_isOfScope_54 (by decide) ?_ ?_
        · refine r_iconst (pc := 61) C dX1_isOfScope_61 (v := 0) (by decide) ?_
          exact r_retPZ hR rfl (pc := 62) dX1_isOfScope_62
        · refine r_iconst (pc := 57) C dX1_isOfScope_57 (v := 1) (by decide) ?_
          refine r_goto 62 (pc := 58) C dX1_isOfScope_58 (by decide) ?_
          exact r_retPZ hR rfl (pc := 62) dX1_isOfScope_62
    · refine r_aload_n (pc := 12) C dX1_isOfScope_12 0 rfl ?_
      refine xg_bk_athletes (pc := 13) C kw_1_98 dX1_isOfScope_13 ?_
      refine xgN_pa_second (pc := 16) C knf_8 dX1_isOfScope_16 ?_
      refine r_aload_n (pc := 19) C dX1_isOfScope_19 0 rfl ?_
      refine xg_bk_athlete (pc := 20) C kw_1_103 dX1_isOfScope_20 ?_
      refine r_iload_n (pc := 23) C dX1_isOfScope_23 1 rfl ?_
      refine xl_bk_athlete (pc := 24) C dX1_isOfScope_24 ?_
      refine xl_pa_second (pc := 25) C dX1_isOfScope_25 ?_
      refine r_iload_n (pc := 26) C dX1_isOfScope_26 2 rfl ?_
      refine r_iconst (pc := 27) C dX1_isOfScope_27 (v := 1) (by decide) ?_
      refine r_isub (pc := 28) C dX1_isOfScope_28 ?_
      refine r_icmp_ne 36 (pc := 29) C dX1_isOfScope_29 (by decide) ?_ ?_
      · refine r_iconst (pc := 36) C dX1_isOfScope_36 (v := 0) (by decide) ?_
        exact r_retPZ hR rfl (pc := 37) dX1_isOfScope_37
      · refine r_iconst (pc := 32) C dX1_isOfScope_32 (v := 1) (by decide) ?_
        refine r_goto 37 (pc := 33) C dX1_isOfScope_33 (by decide) ?_
        exact r_retPZ hR rfl (pc := 37) dX1_isOfScope_37
  · refine r_iconst (pc := 4) C dX1_isOfScope_4 (v := 1) (by decide) ?_
    exact r_retPZ hR rfl (pc := 5) dX1_isOfScope_5
abbrev rm_X11_within : Room := { frames := 2, cells := 0, slots := 0, locals := 44 }
theorem kY_X11_within : kY yX11_within cX11_within 3 (some .int) 2 := ⟨kw_1_1, kw_4_87, by decide, by decide, by decide +kernel⟩
def f_X11_within (S : CS) (a1 : Int32) (a2 : Int32) : Option (Int32) :=
  bp (f_X11_isMarkAndScope S a1 a2) (fun x1 =>
  (if x1 = true then
  bp (f_X1_isOfScope S a1 a2) (fun x2 =>
  (if x2 = true then
  some 1
 else
  some 0))
 else
  some (-1)))
set_option maxRecDepth 100000 in
set_option maxHeartbeats 4000000 in
theorem c_X11_within {g : KG} {q : Nat → Nat} {E : va_W} {S : CS} {a1 : Int32} {a2 : Int32} {r : Int32} (h : f_X11_within S a1 a2 = some r) : ∀ l, kM l yX11_within cX11_within 3 (some .int) rm_X11_within g [.ref (q 0), .int a1, .int a2] (cx g q E S) (cx g q E S) (some (.int r)) 0 0 := by
  refine k_open_i (own := "MarkChains") (by decide) rfl (Nat.le_of_ble_eq_true rfl) (fun X C hR => ?_)
  refine (?_ : jJ X g (r : Int32) (cx g q E S) 0 0 0 [(0, .ref (q 0)), (1, .int a1), (2, .int a2)] [] (f_X11_within S a1 a2)) h
  unfold f_X11_within
  refine r_aload_n (pc := 0) C dX11_within_0 0 rfl ?_
  refine r_iload_n (pc := 1) C dX11_within_1 1 rfl ?_
  refine r_iload_n (pc := 2) C dX11_within_2 2 rfl ?_
  refine r_cVpz (As := [.int a1, .int a2]) (st := []) (pc := 3) C (fun _ h => c_X11_isMarkAndScope h) kY_X11_isMarkAndScope kw_4_90 kw_0_23 kw_4_88 rfl ⟨Nat.le_of_ble_eq_true rfl, Nat.le_of_ble_eq_true rfl⟩ rfl rfl ⟨Nat.zero_le _, Nat.zero_le _⟩ 0 rfl rfl rfl (Nat.le_of_ble_eq_true rfl) dX11_within_3 (fun x1 => ?_)
  refine r_ifb_ne 11 (pc := 6) C dX11_within_6 (by decide) ?_ ?_
  · refine r_aload_n (pc := 11) C dX11_within_11 0 rfl ?_
    refine xg_x_book (pc := 12) C kw_2_75 dX11_within_12 ?_
    refine r_iload_n (pc := 15) C dX11_within_15 1 rfl ?_
    refine r_iload_n (pc := 16) C dX11_within_16 2 rfl ?_
    refine r_cVpz (As := [.int a1, .int a2]) (st := []) (pc := 17) C (fun _ h => c_X1_isOfScope h) kY_X1_isOfScope kw_4_96 kw_4_97 kw_4_95 rfl ⟨Nat.le_of_ble_eq_true rfl, Nat.le_of_ble_eq_true rfl⟩ rfl rfl ⟨Nat.zero_le _, Nat.zero_le _⟩ 3 rfl rfl rfl (Nat.le_of_ble_eq_true rfl) dX11_within_17 (fun x2 => ?_)
    refine r_ifb_eq 27 (pc := 20) C dX11_within_20 (by decide) ?_ ?_
    · refine r_iconst (pc := 27) C dX11_within_27 (v := 0) (by decide) ?_
      exact r_retPI hR (pc := 28) dX11_within_28
    · refine r_iconst (pc := 23) C dX11_within_23 (v := 1) (by decide) ?_
      refine r_goto 28 (pc := 24) C dX11_within_24 (by decide) ?_
      exact r_retPI hR (pc := 28) dX11_within_28
  · refine r_iconst (pc := 9) C dX11_within_9 (v := (-1)) (by decide) ?_
    exact r_retPI hR (pc := 10) dX11_within_10
abbrev rm_X11_isDay : Room := { frames := 0, cells := 0, slots := 0, locals := 0 }
theorem kY_X11_isDay : kY yX11_isDay cX11_isDay 1 (some .boolean) 1 := ⟨kw_1_1, kw_4_115, by decide, by decide, by decide +kernel⟩
def f_X11_isDay (a0 : Int32) : Option (Bool) :=
  (if a0 < 0 then
  some false
 else
  (if 20000 < a0 then
  some false
 else
  some true))
set_option maxRecDepth 100000 in
set_option maxHeartbeats 4000000 in
theorem c_X11_isDay {g : KG} {ws : va_W} {a0 : Int32} {r : Bool} (h : f_X11_isDay a0 = some r) : ∀ l, kM l yX11_isDay cX11_isDay 1 (some .boolean) rm_X11_isDay g [.int a0] (ws) (ws) (some (.int (b2 r))) 0 0 := by
  refine k_open_z (own := "MarkChains") (by decide) rfl (Nat.le_of_ble_eq_true rfl) (fun X C hR => ?_)
  refine (?_ : jJ X g (r : Bool) (ws) 0 0 0 [(0, .int a0)] [] (f_X11_isDay a0)) h
  unfold f_X11_isDay
  refine r_iload_n (pc := 0) C dX11_isDay_0 0 rfl ?_
  refine r_if_lt 15 (pc := 1) C dX11_isDay_1 (by decide) ?_ ?_
  · refine r_iconst (pc := 15) C dX11_isDay_15 (v := 0) (by decide) ?_
    exact r_retPZ hR rfl (pc := 16) dX11_isDay_16
  · refine r_iload_n (pc := 4) C dX11_isDay_4 0 rfl ?_
    refine r_sipush (pc := 5) C dX11_isDay_5 (v := 20000) (by decide) ?_
    refine r_icmp_gt 15 (pc := 8) C dX11_isDay_8 (by decide) ?_ ?_
    · refine r_iconst (pc := 15) C dX11_isDay_15 (v := 0) (by decide) ?_
      exact r_retPZ hR rfl (pc := 16) dX11_isDay_16
    · refine r_iconst (pc := 11) C dX11_isDay_11 (v := 1) (by decide) ?_
      refine r_goto 16 (pc := 12) C dX11_isDay_12 (by decide) ?_
      exact r_retPZ hR rfl (pc := 16) dX11_isDay_16
abbrev rm_X11_isAsked : Room := { frames := 1, cells := 0, slots := 0, locals := 21 }
theorem kY_X11_isAsked : kY yX11_isAsked cX11_isAsked 4 (some .boolean) 3 := ⟨kw_1_1, kw_4_112, by decide, by decide, by decide +kernel⟩
def f_X11_isAsked (S : CS) (a1 : Int32) (a2 : Int32) (a3 : Int32) : Option (Bool) :=
  bp (f_X8_has_pe S a1) (fun x1 =>
  (if x1 = true then
  bp (f_X11_isScope a2) (fun x2 =>
  (if x2 = true then
  bp (f_X11_isDay a3) (fun x3 =>
  (if x3 = true then
  some true
 else
  some false))
 else
  some false))
 else
  some false))
set_option maxRecDepth 100000 in
set_option maxHeartbeats 4000000 in
theorem c_X11_isAsked {g : KG} {q : Nat → Nat} {E : va_W} {S : CS} {a1 : Int32} {a2 : Int32} {a3 : Int32} {r : Bool} (h : f_X11_isAsked S a1 a2 a3 = some r) : ∀ l, kM l yX11_isAsked cX11_isAsked 4 (some .boolean) rm_X11_isAsked g [.ref (q 0), .int a1, .int a2, .int a3] (cx g q E S) (cx g q E S) (some (.int (b2 r))) 0 0 := by
  refine k_open_z (own := "MarkChains") (by decide) rfl (Nat.le_of_ble_eq_true rfl) (fun X C hR => ?_)
  refine (?_ : jJ X g (r : Bool) (cx g q E S) 0 0 0 [(0, .ref (q 0)), (1, .int a1), (2, .int a2), (3, .int a3)] [] (f_X11_isAsked S a1 a2 a3)) h
  unfold f_X11_isAsked
  refine r_aload_n (pc := 0) C dX11_isAsked_0 0 rfl ?_
  refine xg_x_book (pc := 1) C kw_2_75 dX11_isAsked_1 ?_
  refine xgN_bk_events (pc := 4) C knf_12 dX11_isAsked_4 ?_
  refine r_iload_n (pc := 7) C dX11_isAsked_7 1 rfl ?_
  refine r_cVpz (As := [.int a1]) (st := []) (pc := 8) C (fun _ h => c_X8_has_pe h) kY_X8_has kw_3_46 kw_3_47 kw_4_58 rfl ⟨Nat.le_of_ble_eq_true rfl, Nat.le_of_ble_eq_true rfl⟩ rfl rfl ⟨Nat.zero_le _, Nat.zero_le _⟩ 4 rfl rfl rfl (Nat.le_of_ble_eq_true rfl) dX11_isAsked_8 (fun x1 => ?_)
  refine r_ifb_eq 32 (pc := 11) C dX11_isAsked_11 (by decide) ?_ ?_
  · refine r_iconst (pc := 32) C dX11_isAsked_32 (v := 0) (by decide) ?_
    exact r_retPZ hR rfl (pc := 33) dX11_isAsked_33
  · refine r_iload_n (pc := 14) C dX11_isAsked_14 2 rfl ?_
    refine r_cSpz (As := [.int a2]) (st := []) (pc := 15) C (fun _ h => c_X11_isScope h) kY_X11_isScope kw_4_93 kw_4_92 rfl ⟨Nat.le_of_ble_eq_true rfl, Nat.le_of_ble_eq_true rfl⟩ rfl rfl ⟨Nat.zero_le _, Nat.zero_le _⟩ rfl (Nat.le_of_ble_eq_true rfl) dX11_isAsked_15 (fun x2 => ?_)
    refine r_ifb_eq 32 (pc := 18) C dX11_isAsked_18 (by decide) ?_ ?_
    · refine r_iconst (pc := 32) C dX11_isAsked_32 (v := 0) (by decide) ?_
      exact r_retPZ hR rfl (pc := 33) dX11_isAsked_33
    · refine r_iload_n (pc := 21) C dX11_isAsked_21 3 rfl ?_
      refine r_cSpz (As := [.int a3]) (st := []) (pc := 22) C (fun _ h => c_X11_isDay h) kY_X11_isDay kw_4_114 kw_4_113 rfl ⟨Nat.le_of_ble_eq_true rfl, Nat.le_of_ble_eq_true rfl⟩ rfl rfl ⟨Nat.zero_le _, Nat.zero_le _⟩ rfl (Nat.le_of_ble_eq_true rfl) dX11_isAsked_22 (fun x3 => ?_)
      refine r_ifb_eq 32 (pc := 25) C dX11_isAsked_25 (by decide) ?_ ?_
      · refine r_iconst (pc := 32) C dX11_isAsked_32 (v := 0) (by decide) ?_
        exact r_retPZ hR rfl (pc := 33) dX11_isAsked_33
      · refine r_iconst (pc := 28) C dX11_isAsked_28 (v := 1) (by decide) ?_
        refine r_goto 33 (pc := 29) C dX11_isAsked_29 (by decide) ?_
        exact r_retPZ hR rfl (pc := 33) dX11_isAsked_33
abbrev rm_X1_isListed : Room := { frames := 2, cells := 0, slots := 0, locals := 44 }
theorem kY_X1_isListed : kY yX1_isListed cX1_isListed 5 (some .boolean) 4 := ⟨kw_1_3, kw_4_123, by decide, by decide, by decide +kernel⟩
def f_X1_isListed (S : CS) (a1 : Int32) (a2 : Int32) (a3 : Int32) (a4 : Int32) : Option (Bool) :=
  chk a1 60 (
  (if (S.2.1 13 a1.toNatClampNeg) = a2 then
  bp (f_X1_isStanding S a1 a4) (fun x1 =>
  (if x1 = true then
  bp (f_X1_isOfScope S a1 a3) (fun x2 =>
  (if x2 = true then
  some true
 else
  some false))
 else
  some false))
 else
  some false))
set_option maxRecDepth 100000 in
set_option maxHeartbeats 4000000 in
theorem c_X1_isListed {g : KG} {q : Nat → Nat} {E : va_W} {S : CS} {a1 : Int32} {a2 : Int32} {a3 : Int32} {a4 : Int32} {r : Bool} (h : f_X1_isListed S a1 a2 a3 a4 = some r) : ∀ l, kM l yX1_isListed cX1_isListed 5 (some .boolean) rm_X1_isListed g [.ref (q 3), .int a1, .int a2, .int a3, .int a4] (cx g q E S) (cx g q E S) (some (.int (b2 r))) 0 0 := by
  refine k_open_z (own := "MarkChains$Book") (by decide) rfl (Nat.le_of_ble_eq_true rfl) (fun X C hR => ?_)
  refine (?_ : jJ X g (r : Bool) (cx g q E S) 0 0 0 [(0, .ref (q 3)), (1, .int a1), (2, .int a2), (3, .int a3), (4, .int a4)] [] (f_X1_isListed S a1 a2 a3 a4)) h
  unfold f_X1_isListed
  refine r_aload_n (pc := 0) C dX1_isListed_0 0 rfl ?_
  refine xg_bk_event (pc := 1) C kw_1_101 dX1_isListed_1 ?_
  refine r_iload_n (pc := 4) C dX1_isListed_4 1 rfl ?_
  refine xl_bk_event (pc := 5) C dX1_isListed_5 ?_
  refine r_iload_n (pc := 6) C dX1_isListed_6 2 rfl ?_
  refine r_icmp_ne 33 (pc := 7) C dX1_isListed_7 (by decide) ?_ ?_
  · refine r_iconst (pc := 33) C dX1_isListed_33 (v := 0) (by decide) ?_
    exact r_retPZ hR rfl (pc := 34) dX1_isListed_34
  · refine r_aload_n (pc := 10) C dX1_isListed_10 0 rfl ?_
    refine r_iload_n (pc := 11) C dX1_isListed_11 1 rfl ?_
    refine r_iload (pc := 12) C dX1_isListed_12 4 rfl ?_
    refine r_cVpz (As := [.int a1, .int a4]) (st := []) (pc := 14) C (fun _ h => c_X1_isStanding h) kY_X1_isStanding kw_3_233 kw_3_234 kw_3_232 rfl ⟨Nat.le_of_ble_eq_true rfl, Nat.le_of_ble_eq_true rfl⟩ rfl rfl ⟨Nat.zero_le _, Nat.zero_le _⟩ 3 rfl rfl rfl (Nat.le_of_ble_eq_true rfl) dX1_isListed_14 (fun x1 => ?_)
    refine r_ifb_eq 33 (pc := 17) C dX1_isListed_17 (by decide) ?_ ?_
    · refine r_iconst (pc := 33) C dX1_isListed_33 (v := 0) (by decide) ?_
      exact r_retPZ hR rfl (pc := 34) dX1_isListed_34
    · refine r_aload_n (pc := 20) C dX1_isListed_20 0 rfl ?_
      refine r_iload_n (pc := 21) C dX1_isListed_21 1 rfl ?_
      refine r_iload_n (pc := 22) C dX1_isListed_22 3 rfl ?_
      refine r_cVpz (As := [.int a1, .int a3]) (st := []) (pc := 23) C (fun _ h => c_X1_isOfScope h) kY_X1_isOfScope kw_4_96 kw_4_97 kw_4_124 rfl ⟨Nat.le_of_ble_eq_true rfl, Nat.le_of_ble_eq_true rfl⟩ rfl rfl ⟨Nat.zero_le _, Nat.zero_le _⟩ 3 rfl rfl rfl (Nat.le_of_ble_eq_true rfl) dX1_isListed_23 (fun x2 => ?_)
      refine r_ifb_eq 33 (pc := 26) C dX1_isListed_26 (by decide) ?_ ?_
      · refine r_iconst (pc := 33) C dX1_isListed_33 (v := 0) (by decide) ?_
        exact r_retPZ hR rfl (pc := 34) dX1_isListed_34
      · refine r_iconst (pc := 29) C dX1_isListed_29 (v := 1) (by decide) ?_
        refine r_goto 34 (pc := 30) C dX1_isListed_30 (by decide) ?_
        exact r_retPZ hR rfl (pc := 34) dX1_isListed_34
abbrev rm_X7_append_l1 : Room := { frames := 0, cells := 0, slots := 0, locals := 0 }
theorem kY_X7_append : kY yX7_append cX7_append 2 none 1 := ⟨kw_1_10, kw_4_140, by decide, by decide, by decide +kernel⟩
def f_X7_append_l1 (S : CS) (a1 : Int32) : Option (CS) :=
  (if 60 ≤ (S.1 21) then
  some S
 else
  chk (S.1 21) 60 (lt (ca S 37 (upd (S.2.1 37) (S.1 21).toNatClampNeg a1)) fun S1 =>
  lt (ci S1 21 ((S1.1 21) + 1)) fun S2 =>
  some S2))
set_option maxRecDepth 100000 in
set_option maxHeartbeats 4000000 in
theorem c_X7_append_l1 {g : KG} {q : Nat → Nat} {E : va_W} {S : CS} {a1 : Int32} {S' : CS} (h : f_X7_append_l1 S a1 = some S') : ∀ l, kM l yX7_append cX7_append 2 none rm_X7_append_l1 g [.ref (q 36), .int a1] (cx g q E S) (cx g q E S') (none) 0 0 := by
  refine k_open_v (own := "MarkChains$Line") (by decide) rfl (Nat.le_of_ble_eq_true rfl) (fun X C hR => ?_)
  refine (?_ : jJ X g (S' : CS) (cx g q E S) 0 0 0 [(0, .ref (q 36)), (1, .int a1)] [] (f_X7_append_l1 S a1)) h
  unfold f_X7_append_l1
  refine r_aload_n (pc := 0) C dX7_append_0 0 rfl ?_
  refine xg_l1_size (pc := 1) C kw_2_29 dX7_append_1 ?_
  refine r_bipush (pc := 4) C dX7_append_4 (v := 60) (by decide) ?_
  refine r_icmp_ge 29 (pc := 6) C dX7_append_6 (by decide) ?_ ?_
  · exact r_retWV (wf := cx g q E) hR (pc := 29) dX7_append_29
  · refine r_aload_n (pc := 9) C dX7_append_9 0 rfl ?_
    refine xg_l1_numbers (pc := 10) C kw_2_26 dX7_append_10 ?_
    refine r_aload_n (pc := 13) C dX7_append_13 0 rfl ?_
    refine xg_l1_size (pc := 14) C kw_2_29 dX7_append_14 ?_
    refine r_iload_n (pc := 17) C dX7_append_17 1 rfl ?_
    refine xs_l1_numbers (pc := 18) C dX7_append_18 (fun S1 => ?_)
    refine r_aload_n (pc := 19) C dX7_append_19 0 rfl ?_
    refine r_dup (pc := 20) C dX7_append_20 rfl ?_
    refine xg_l1_size (pc := 21) C kw_2_29 dX7_append_21 ?_
    refine r_iconst (pc := 24) C dX7_append_24 (v := 1) (by decide) ?_
    refine r_iadd (pc := 25) C dX7_append_25 ?_
    refine xp_l1_size (pc := 26) C kw_2_29 dX7_append_26 (fun S2 => ?_)
    exact r_retWV (wf := cx g q E) hR (pc := 29) dX7_append_29
set_option maxRecDepth 100000 in
theorem w_X7_append_l1 {S : CS} {a1 : Int32} {S' : CS} (h : f_X7_append_l1 S a1 = some S') : gI [21] [37] S S' := by
  have hS : gI [21] [37] S S := gI_rf
  refine (?_ : jf (gI [21] [37] S) id (f_X7_append_l1 S a1)) _ h
  unfold f_X7_append_l1
  refine f_ite ?_ ?_
  · exact f_some hS
  · refine f_chk (f_ltS (gI_ca hS (by decide)) (fun S1 hS1 => ?_))
    refine f_ltS (gI_ci hS1 (by decide)) (fun S2 hS2 => ?_)
    exact f_some hS2
abbrev rm_X1_isMoreBetter : Room := { frames := 0, cells := 0, slots := 0, locals := 0 }
theorem kY_X1_isMoreBetter : kY yX1_isMoreBetter cX1_isMoreBetter 2 (some .boolean) 1 := ⟨kw_1_3, kw_4_136, by decide, by decide, by decide +kernel⟩
def f_X1_isMoreBetter (S : CS) (a1 : Int32) : Option (Bool) :=
  chk a1 6 (
  (if (S.2.1 5 a1.toNatClampNeg) = 1 then
  some true
 else
  some false))
set_option maxRecDepth 100000 in
set_option maxHeartbeats 4000000 in
theorem c_X1_isMoreBetter {g : KG} {q : Nat → Nat} {E : va_W} {S : CS} {a1 : Int32} {r : Bool} (h : f_X1_isMoreBetter S a1 = some r) : ∀ l, kM l yX1_isMoreBetter cX1_isMoreBetter 2 (some .boolean) rm_X1_isMoreBetter g [.ref (q 3), .int a1] (cx g q E S) (cx g q E S) (some (.int (b2 r))) 0 0 := by
  refine k_open_z (own := "MarkChains$Book") (by decide) rfl (Nat.le_of_ble_eq_true rfl) (fun X C hR => ?_)
  refine (?_ : jJ X g (r : Bool) (cx g q E S) 0 0 0 [(0, .ref (q 3)), (1, .int a1)] [] (f_X1_isMoreBetter S a1)) h
  unfold f_X1_isMoreBetter
  refine r_aload_n (pc := 0) C dX1_isMoreBetter_0 0 rfl ?_
  refine xg_bk_events (pc := 1) C kw_1_92 dX1_isMoreBetter_1 ?_
  refine xgN_pe_first (pc := 4) C knf_6 dX1_isMoreBetter_4 ?_
  refine r_iload_n (pc := 7) C dX1_isMoreBetter_7 1 rfl ?_
  refine xl_pe_first (pc := 8) C dX1_isMoreBetter_8 ?_
  refine r_iconst (pc := 9) C dX1_isMoreBetter_9 (v := 1) (by decide) ?_
  refine r_icmp_ne 17 (pc := 10) C dX1_isMoreBetter_10 (by decide) ?_ ?_
  · refine r_iconst (pc := 17) C dX1_isMoreBetter_17 (v := 0) (by decide) ?_
    exact r_retPZ hR rfl (pc := 18) dX1_isMoreBetter_18
  · refine r_iconst (pc := 13) C dX1_isMoreBetter_13 (v := 1) (by decide) ?_
    refine r_goto 18 (pc := 14) C dX1_isMoreBetter_14 (by decide) ?_
    exact r_retPZ hR rfl (pc := 18) dX1_isMoreBetter_18
abbrev rm_X1_gainOver : Room := { frames := 1, cells := 0, slots := 0, locals := 21 }
theorem kY_X1_gainOver : kY yX1_gainOver cX1_gainOver 3 (some .int) 2 := ⟨kw_1_3, kw_4_132, by decide, by decide, by decide +kernel⟩
def f_X1_gainOver (S : CS) (a1 : Int32) (a2 : Int32) : Option (Int32) :=
  chk a1 60 (
  bp (f_X1_isMoreBetter S (S.2.1 13 a1.toNatClampNeg)) (fun x1 =>
  (if x1 = true then
  chk a1 60 (
  chk a2 60 (
  some ((S.2.1 18 a1.toNatClampNeg) - (S.2.1 18 a2.toNatClampNeg))))
 else
  chk a2 60 (
  chk a1 60 (
  some ((S.2.1 18 a2.toNatClampNeg) - (S.2.1 18 a1.toNatClampNeg)))))))
set_option maxRecDepth 100000 in
set_option maxHeartbeats 4000000 in
theorem c_X1_gainOver {g : KG} {q : Nat → Nat} {E : va_W} {S : CS} {a1 : Int32} {a2 : Int32} {r : Int32} (h : f_X1_gainOver S a1 a2 = some r) : ∀ l, kM l yX1_gainOver cX1_gainOver 3 (some .int) rm_X1_gainOver g [.ref (q 3), .int a1, .int a2] (cx g q E S) (cx g q E S) (some (.int r)) 0 0 := by
  refine k_open_i (own := "MarkChains$Book") (by decide) rfl (Nat.le_of_ble_eq_true rfl) (fun X C hR => ?_)
  refine (?_ : jJ X g (r : Int32) (cx g q E S) 0 0 0 [(0, .ref (q 3)), (1, .int a1), (2, .int a2)] [] (f_X1_gainOver S a1 a2)) h
  unfold f_X1_gainOver
  refine r_aload_n (pc := 0) C dX1_gainOver_0 0 rfl ?_
  refine r_aload_n (pc := 1) C dX1_gainOver_1 0 rfl ?_
  refine xg_bk_event (pc := 2) C kw_1_101 dX1_gainOver_2 ?_
  refine r_iload_n (pc := 5) C dX1_gainOver_5 1 rfl ?_
  refine xl_bk_event (pc := 6) C dX1_gainOver_6 ?_
  refine r_cVpz (As := [.int (S.2.1 13 a1.toNatClampNeg)]) (st := []) (pc := 7) C (fun _ h => c_X1_isMoreBetter h) kY_X1_isMoreBetter kw_4_134 kw_4_135 kw_4_133 rfl ⟨Nat.le_of_ble_eq_true rfl, Nat.le_of_ble_eq_true rfl⟩ rfl rfl ⟨Nat.zero_le _, Nat.zero_le _⟩ 3 rfl rfl rfl (Nat.le_of_ble_eq_true rfl) dX1_gainOver_7 (fun x1 => ?_)
  refine r_ifb_eq 29 (pc := 10) C dX1_gainOver_10 (by decide) ?_ ?_
  · refine r_aload_n (pc := 29) C dX1_gainOver_29 0 rfl ?_
    refine xg_bk_value (pc := 30) C kw_1_112 dX1_gainOver_30 ?_
    refine r_iload_n (pc := 33) C dX1_gainOver_33 2 rfl ?_
    refine xl_bk_value (pc := 34) C dX1_gainOver_34 ?_
    refine r_aload_n (pc := 35) C dX1_gainOver_35 0 rfl ?_
    refine xg_bk_value (pc := 36) C kw_1_112 dX1_gainOver_36 ?_
    refine r_iload_n (pc := 39) C dX1_gainOver_39 1 rfl ?_
    refine xl_bk_value (pc := 40) C dX1_gainOver_40 ?_
    refine r_isub (pc := 41) C dX1_gainOver_41 ?_
    exact r_retPI hR (pc := 42) dX1_gainOver_42
  · refine r_aload_n (pc := 13) C dX1_gainOver_13 0 rfl ?_
    refine xg_bk_value (pc := 14) C kw_1_112 dX1_gainOver_14 ?_
    refine r_iload_n (pc := 17) C dX1_gainOver_17 1 rfl ?_
    refine xl_bk_value (pc := 18) C dX1_gainOver_18 ?_
    refine r_aload_n (pc := 19) C dX1_gainOver_19 0 rfl ?_
    refine xg_bk_value (pc := 20) C kw_1_112 dX1_gainOver_20 ?_
    refine r_iload_n (pc := 23) C dX1_gainOver_23 2 rfl ?_
    refine xl_bk_value (pc := 24) C dX1_gainOver_24 ?_
    refine r_isub (pc := 25) C dX1_gainOver_25 ?_
    refine r_goto 42 (pc := 26) C dX1_gainOver_26 (by decide) ?_
    exact r_retPI hR (pc := 42) dX1_gainOver_42
abbrev rm_X1_isBetter : Room := { frames := 2, cells := 0, slots := 0, locals := 43 }
theorem kY_X1_isBetter : kY yX1_isBetter cX1_isBetter 3 (some .boolean) 2 := ⟨kw_1_3, kw_4_128, by decide, by decide, by decide +kernel⟩
def f_X1_isBetter (S : CS) (a1 : Int32) (a2 : Int32) : Option (Bool) :=
  bp (f_X1_gainOver S a1 a2) (fun x1 =>
  (if x1 ≤ 0 then
  some false
 else
  some true))
set_option maxRecDepth 100000 in
set_option maxHeartbeats 4000000 in
theorem c_X1_isBetter {g : KG} {q : Nat → Nat} {E : va_W} {S : CS} {a1 : Int32} {a2 : Int32} {r : Bool} (h : f_X1_isBetter S a1 a2 = some r) : ∀ l, kM l yX1_isBetter cX1_isBetter 3 (some .boolean) rm_X1_isBetter g [.ref (q 3), .int a1, .int a2] (cx g q E S) (cx g q E S) (some (.int (b2 r))) 0 0 := by
  refine k_open_z (own := "MarkChains$Book") (by decide) rfl (Nat.le_of_ble_eq_true rfl) (fun X C hR => ?_)
  refine (?_ : jJ X g (r : Bool) (cx g q E S) 0 0 0 [(0, .ref (q 3)), (1, .int a1), (2, .int a2)] [] (f_X1_isBetter S a1 a2)) h
  unfold f_X1_isBetter
  refine r_aload_n (pc := 0) C dX1_isBetter_0 0 rfl ?_
  refine r_iload_n (pc := 1) C dX1_isBetter_1 1 rfl ?_
  refine r_iload_n (pc := 2) C dX1_isBetter_2 2 rfl ?_
  refine r_cVpi (As := [.int a1, .int a2]) (st := []) (pc := 3) C (fun _ h => c_X1_gainOver h) kY_X1_gainOver kw_4_130 kw_4_131 kw_4_129 rfl ⟨Nat.le_of_ble_eq_true rfl, Nat.le_of_ble_eq_true rfl⟩ rfl rfl ⟨Nat.zero_le _, Nat.zero_le _⟩ 3 rfl rfl rfl (Nat.le_of_ble_eq_true rfl) dX1_isBetter_3 (fun x1 => ?_)
  refine r_if_le 13 (pc := 6) C dX1_isBetter_6 (by decide) ?_ ?_
  · refine r_iconst (pc := 13) C dX1_isBetter_13 (v := 0) (by decide) ?_
    exact r_retPZ hR rfl (pc := 14) dX1_isBetter_14
  · refine r_iconst (pc := 9) C dX1_isBetter_9 (v := 1) (by decide) ?_
    refine r_goto 14 (pc := 10) C dX1_isBetter_10 (by decide) ?_
    exact r_retPZ hR rfl (pc := 14) dX1_isBetter_14
abbrev rm_X7_fillWithChain_l1 : Room := { frames := 3, cells := 0, slots := 0, locals := 68 }
theorem kY_X7_fillWithChain : kY yX7_fillWithChain cX7_fillWithChain 7 none 4 := ⟨kw_1_10, kw_4_119, by decide, by decide, by decide +kernel⟩
def L_X7_fillWithChain_l1_8 (c1 : Int32) (c2 : Int32) (c3 : Int32) (c4 : Int32) (k6 : CS → Option (CS)) : Nat → CS → Int32 → Option (CS) := lo2 fun rec4 S3 x2 =>
  (if (S3.1 6) ≤ x2 then
  k6 S3
 else
  chk x2 60 (
  lt (S3.2.1 24 x2.toNatClampNeg) fun x8 =>
  (if x8 = c4 then
  lt (x2 + 1) fun x9 =>
  rec4 S3 x9
 else
  bp (f_X1_isListed S3 x8 c1 c2 c3) (fun x10 =>
  (if x10 = true then
  jn0 (bp (f_X7_append_l1 S3 x8) (fun S12 =>
  lt (x2 + 1) fun x13 =>
  rec4 S12 x13)) (fun k14 =>
  (if (S3.1 21) = 0 then
  k14
 else
  chk ((S3.1 21) - 1) 60 (
  bp (f_X1_isBetter S3 (S3.2.1 37 ((S3.1 21) - 1).toNatClampNeg) x8) (fun x16 =>
  (if x16 = true then
  lt (x2 + 1) fun x17 =>
  rec4 S3 x17
 else
  k14)))))
 else
  lt (x2 + 1) fun x11 =>
  rec4 S3 x11)))))
set_option maxRecDepth 100000 in
set_option maxHeartbeats 4000000 in
theorem l_X7_fillWithChain_l1_8 {X : KX} {g : KG} {q : Nat → Nat} {E : va_W} {res : CS} (C : kC X g cX7_fillWithChain "MarkChains$Line" rm_X7_fillWithChain_l1 7) (hR : ∀ (pc : Nat) (lv : List (Nat × Value)), decode cX7_fillWithChain pc = .ok (.return_, 1) → jW X g (cx g q E res) 0 0 pc lv []) (c1 : Int32) (c2 : Int32) (c3 : Int32) (c4 : Int32) (k6 : CS → Option (CS)) (hk7 : ∀ (S18 : CS), jJ X g res (cx g q E S18) 0 0 96 [] [] (k6 S18)) : ∀ (n : Nat) (S3 : CS) (x2 : Int32), jJ X g res (cx g q E S3) 0 0 8 [(0, .ref (q 36)), (1, .int c1), (2, .int c2), (3, .int c3), (4, .int c4), (5, .int x2)] [] (L_X7_fillWithChain_l1_8 c1 c2 c3 c4 k6 n S3 x2) := by
  refine r_lo2 (fun S3 x2 => cx g q E S3) (fun S3 x2 => [(0, .ref (q 36)), (1, .int c1), (2, .int c2), (3, .int c3), (4, .int c4), (5, .int x2)]) (fun rec4 ih5 S3 x2 => ?_)
  refine r_iload (pc := 8) C dX7_fillWithChain_8 5 rfl ?_
  refine r_aload_n (pc := 10) C dX7_fillWithChain_10 0 rfl ?_
  refine xg_l1_book (pc := 11) C kw_2_25 dX7_fillWithChain_11 ?_
  refine xgN_bk_size (pc := 14) C knf_29 dX7_fillWithChain_14 ?_
  refine r_icmp_ge 96 (pc := 17) C dX7_fillWithChain_17 (by decide) ?_ ?_
  · refine r_sub (lv' := []) [] rfl ?_
    exact hk7 S3
  · refine r_aload_n (pc := 20) C dX7_fillWithChain_20 0 rfl ?_
    refine xg_l1_book (pc := 21) C kw_2_25 dX7_fillWithChain_21 ?_
    refine xgN_bk_order (pc := 24) C knf_28 dX7_fillWithChain_24 ?_
    refine r_iload (pc := 27) C dX7_fillWithChain_27 5 rfl ?_
    refine xl_bk_order (pc := 29) C dX7_fillWithChain_29 ?_
    refine r_istoreV (pc := 30) C dX7_fillWithChain_30 (lv' := fun x8 => [(0, .ref (q 36)), (1, .int c1), (2, .int c2), (3, .int c3), (4, .int c4), (5, .int x2), (6, .int x8)]) (by decide) [1, 2, 3, 4, 5, 6, 0] (fun _ => rfl) (fun x8 => ?_)
    refine r_iload (pc := 32) C dX7_fillWithChain_32 6 rfl ?_
    refine r_iload (pc := 34) C dX7_fillWithChain_34 4 rfl ?_
    refine r_icmp_eq 90 (pc := 36) C dX7_fillWithChain_36 (by decide) ?_ ?_
    · refine r_iinc (pc := 90) C dX7_fillWithChain_90 (v := 1) (lv' := fun x9 => [(0, .ref (q 36)), (1, .int c1), (2, .int c2), (3, .int c3), (4, .int c4), (5, .int x9), (6, .int x8)]) 5 rfl (by decide) (by decide) [1, 2, 3, 4, 5, 0, 6] (fun _ => rfl) (fun x9 => ?_)
      refine r_goto 8 (pc := 93) C dX7_fillWithChain_93 (by decide) ?_
      refine r_sub (lv' := [(0, .ref (q 36)), (1, .int c1), (2, .int c2), (3, .int c3), (4, .int c4), (5, .int x9)]) [0, 1, 2, 3, 4, 5] rfl ?_
      exact ih5 S3 x9
    · refine r_aload_n (pc := 39) C dX7_fillWithChain_39 0 rfl ?_
      refine xg_l1_book (pc := 40) C kw_2_25 dX7_fillWithChain_40 ?_
      refine r_iload (pc := 43) C dX7_fillWithChain_43 6 rfl ?_
      refine r_iload_n (pc := 45) C dX7_fillWithChain_45 1 rfl ?_
      refine r_iload_n (pc := 46) C dX7_fillWithChain_46 2 rfl ?_
      refine r_iload_n (pc := 47) C dX7_fillWithChain_47 3 rfl ?_
      refine r_cVpz (As := [.int x8, .int c1, .int c2, .int c3]) (st := []) (pc := 48) C (fun _ h => c_X1_isListed h) kY_X1_isListed kw_4_121 kw_4_122 kw_4_120 rfl ⟨Nat.le_of_ble_eq_true rfl, Nat.le_of_ble_eq_true rfl⟩ rfl rfl ⟨Nat.zero_le _, Nat.zero_le _⟩ 3 rfl rfl rfl (Nat.le_of_ble_eq_true rfl) dX7_fillWithChain_48 (fun x10 => ?_)
      refine r_ifb_eq 90 (pc := 51) C dX7_fillWithChain_51 (by decide) ?_ ?_
      · refine r_iinc (pc := 90) C dX7_fillWithChain_90 (v := 1) (lv' := fun x11 => [(0, .ref (q 36)), (1, .int c1), (2, .int c2), (3, .int c3), (4, .int c4), (5, .int x11), (6, .int x8)]) 5 rfl (by decide) (by decide) [1, 2, 3, 4, 5, 0, 6] (fun _ => rfl) (fun x11 => ?_)
        refine r_goto 8 (pc := 93) C dX7_fillWithChain_93 (by decide) ?_
        refine r_sub (lv' := [(0, .ref (q 36)), (1, .int c1), (2, .int c2), (3, .int c3), (4, .int c4), (5, .int x11)]) [0, 1, 2, 3, 4, 5] rfl ?_
        exact ih5 S3 x11
      · refine r_aload_n (pc := 54) C dX7_fillWithChain_54 0 rfl ?_
        refine xg_l1_size (pc := 55) C kw_2_29 dX7_fillWithChain_55 ?_
        refine r_jn0 84 (cx g q E S3) ([(0, .ref (q 36)), (1, .int c1), (2, .int c2), (3, .int c3), (4, .int c4), (5, .int x2), (6, .int x8)]) ([]) ?_ (fun k14 hk15 => ?_)
        · refine r_aload_n (pc := 84) C dX7_fillWithChain_84 0 rfl ?_
          refine r_iload (pc := 85) C dX7_fillWithChain_85 6 rfl ?_
          refine r_cVwv (As := [.int x8]) (st := []) (wf := cx g q E) (pc := 87) C (fun _ h => c_X7_append_l1 h) kY_X7_append kw_4_139 kw_0_26 kw_4_137 rfl ⟨Nat.le_of_ble_eq_true rfl, Nat.le_of_ble_eq_true rfl⟩ rfl rfl ⟨Nat.zero_le _, Nat.zero_le _⟩ 35 rfl rfl rfl (Nat.le_of_ble_eq_true rfl) dX7_fillWithChain_87 (fun S12 => ?_)
          refine r_iinc (pc := 90) C dX7_fillWithChain_90 (v := 1) (lv' := fun x13 => [(0, .ref (q 36)), (1, .int c1), (2, .int c2), (3, .int c3), (4, .int c4), (5, .int x13), (6, .int x8)]) 5 rfl (by decide) (by decide) [1, 2, 3, 4, 5, 0, 6] (fun _ => rfl) (fun x13 => ?_)
          refine r_goto 8 (pc := 93) C dX7_fillWithChain_93 (by decide) ?_
          refine r_sub (lv' := [(0, .ref (q 36)), (1, .int c1), (2, .int c2), (3, .int c3), (4, .int c4), (5, .int x13)]) [0, 1, 2, 3, 4, 5] rfl ?_
          exact ih5 S12 x13
        · refine r_if_eq 84 (pc := 58) C dX7_fillWithChain_58 (by decide) ?_ ?_
          · exact hk15
          · refine r_aload_n (pc := 61) C dX7_fillWithChain_61 0 rfl ?_
            refine xg_l1_book (pc := 62) C kw_2_25 dX7_fillWithChain_62 ?_
            refine r_aload_n (pc := 65) C dX7_fillWithChain_65 0 rfl ?_
            refine xg_l1_numbers (pc := 66) C kw_2_26 dX7_fillWithChain_66 ?_
            refine r_aload_n (pc := 69) C dX7_fillWithChain_69 0 rfl ?_
            refine xg_l1_size (pc := 70) C kw_2_29 dX7_fillWithChain_70 ?_
            refine r_iconst (pc := 73) C dX7_fillWithChain_73 (v := 1) (by decide) ?_
            refine r_isub (pc := 74) C dX7_fillWithChain_74 ?_
            refine xl_l1_numbers (pc := 75) C dX7_fillWithChain_75 ?_
            refine r_iload (pc := 76) C dX7_fillWithChain_76 6 rfl ?_
            refine r_cVpz (As := [.int (S3.2.1 37 ((S3.1 21) - 1).toNatClampNeg), .int x8]) (st := []) (pc := 78) C (fun _ h => c_X1_isBetter h) kY_X1_isBetter kw_4_126 kw_4_127 kw_4_125 rfl ⟨Nat.le_of_ble_eq_true rfl, Nat.le_of_ble_eq_true rfl⟩ rfl rfl ⟨Nat.zero_le _, Nat.zero_le _⟩ 3 rfl rfl rfl (Nat.le_of_ble_eq_true rfl) dX7_fillWithChain_78 (fun x16 => ?_)
            refine r_ifb_ne 90 (pc := 81) C dX7_fillWithChain_81 (by decide) ?_ ?_
            · refine r_iinc (pc := 90) C dX7_fillWithChain_90 (v := 1) (lv' := fun x17 => [(0, .ref (q 36)), (1, .int c1), (2, .int c2), (3, .int c3), (4, .int c4), (5, .int x17), (6, .int x8)]) 5 rfl (by decide) (by decide) [1, 2, 3, 4, 5, 0, 6] (fun _ => rfl) (fun x17 => ?_)
              refine r_goto 8 (pc := 93) C dX7_fillWithChain_93 (by decide) ?_
              refine r_sub (lv' := [(0, .ref (q 36)), (1, .int c1), (2, .int c2), (3, .int c3), (4, .int c4), (5, .int x17)]) [0, 1, 2, 3, 4, 5] rfl ?_
              exact ih5 S3 x17
            · exact hk15
set_option maxRecDepth 100000 in
theorem v_X7_fillWithChain_l1_8 {S0 : CS} {c1 : Int32} {c2 : Int32} {c3 : Int32} {c4 : Int32} {k6 : CS → Option (CS)} (hk7 : ∀ (S18 : CS), (gI [21] [37] S0) S18 → jf (gI [21] [37] S0) id (k6 S18)) : ∀ (n : Nat) (S3 : CS) (x2 : Int32), (gI [21] [37] S0) S3 → jf (gI [21] [37] S0) id (L_X7_fillWithChain_l1_8 c1 c2 c3 c4 k6 n S3 x2) := by
  refine f_lo2 (I := (gI [21] [37] S0)) (fun S3 x2 => S3) (fun rec4 ih5 S3 x2 hS3 => ?_)
  refine f_ite ?_ ?_
  · exact hk7 S3 hS3
  · refine f_chk ?_
    refine f_lt (fun x8 => ?_)
    refine f_ite ?_ ?_
    · refine f_lt (fun x9 => ?_)
      exact ih5 S3 x9 hS3
    · refine f_bp (fun x10 => ?_)
      refine f_ite ?_ ?_
      · refine f_jm0 hS3 (fun  hS3 => ?_) (fun k14 hk15 => ?_)
        · refine f_bpS (fun _ h => gI_tr hS3 (w_X7_append_l1 h) (by decide) (by decide)) (fun S12 hS12 => ?_)
          refine f_lt (fun x13 => ?_)
          exact ih5 S12 x13 hS12
        · refine f_ite ?_ ?_
          · exact hk15 hS3
          · refine f_chk ?_
            refine f_bp (fun x16 => ?_)
            refine f_ite ?_ ?_
            · refine f_lt (fun x17 => ?_)
              exact ih5 S3 x17 hS3
            · exact hk15 hS3
      · refine f_lt (fun x11 => ?_)
        exact ih5 S3 x11 hS3
def f_X7_fillWithChain_l1 (S : CS) (a1 : Int32) (a2 : Int32) (a3 : Int32) (a4 : Int32) : Option (CS) :=
  lt (ci S 21 0) fun S1 =>
  L_X7_fillWithChain_l1_8 a1 a2 a3 a4 (fun S19 =>
  some S19) FU S1 0
set_option maxRecDepth 100000 in
set_option maxHeartbeats 4000000 in
theorem c_X7_fillWithChain_l1 {g : KG} {q : Nat → Nat} {E : va_W} {S : CS} {a1 : Int32} {a2 : Int32} {a3 : Int32} {a4 : Int32} {S' : CS} (h : f_X7_fillWithChain_l1 S a1 a2 a3 a4 = some S') : ∀ l, kM l yX7_fillWithChain cX7_fillWithChain 7 none rm_X7_fillWithChain_l1 g [.ref (q 36), .int a1, .int a2, .int a3, .int a4] (cx g q E S) (cx g q E S') (none) 0 0 := by
  refine k_open_v (own := "MarkChains$Line") (by decide) rfl (Nat.le_of_ble_eq_true rfl) (fun X C hR => ?_)
  refine (?_ : jJ X g (S' : CS) (cx g q E S) 0 0 0 [(0, .ref (q 36)), (1, .int a1), (2, .int a2), (3, .int a3), (4, .int a4)] [] (f_X7_fillWithChain_l1 S a1 a2 a3 a4)) h
  unfold f_X7_fillWithChain_l1
  refine r_aload_n (pc := 0) C dX7_fillWithChain_0 0 rfl ?_
  refine r_iconst (pc := 1) C dX7_fillWithChain_1 (v := 0) (by decide) ?_
  refine xp_l1_size (pc := 2) C kw_2_29 dX7_fillWithChain_2 (fun S1 => ?_)
  refine r_iconst (pc := 5) C dX7_fillWithChain_5 (v := 0) (by decide) ?_
  refine r_istore (pc := 6) C dX7_fillWithChain_6 (lv' := [(0, .ref (q 36)), (1, .int a1), (2, .int a2), (3, .int a3), (4, .int a4), (5, .int 0)]) (by decide) [1, 2, 3, 4, 5, 0] rfl ?_
  refine l_X7_fillWithChain_l1_8 C hR a1 a2 a3 a4 _ (fun S19 => ?_) FU S1 0
  exact r_retWV (wf := cx g q E) hR (pc := 96) dX7_fillWithChain_96
set_option maxRecDepth 100000 in
theorem w_X7_fillWithChain_l1 {S : CS} {a1 : Int32} {a2 : Int32} {a3 : Int32} {a4 : Int32} {S' : CS} (h : f_X7_fillWithChain_l1 S a1 a2 a3 a4 = some S') : gI [21] [37] S S' := by
  have hS : gI [21] [37] S S := gI_rf
  refine (?_ : jf (gI [21] [37] S) id (f_X7_fillWithChain_l1 S a1 a2 a3 a4)) _ h
  unfold f_X7_fillWithChain_l1
  refine f_ltS (gI_ci hS (by decide)) (fun S1 hS1 => ?_)
  refine v_X7_fillWithChain_l1_8 (fun S19 hS19 => ?_) FU S1 0 hS1
  exact f_some hS19
abbrev rm_X11_fillChain : Room := { frames := 4, cells := 0, slots := 0, locals := 94 }
theorem kY_X11_fillChain : kY yX11_fillChain cX11_fillChain 4 (some .boolean) 3 := ⟨kw_1_1, kw_4_108, by decide, by decide, by decide +kernel⟩
def f_X11_fillChain (S : CS) (a1 : Int32) (a2 : Int32) (a3 : Int32) : Option (Bool × CS) :=
  bp (f_X11_isAsked S a1 a2 a3) (fun x1 =>
  (if x1 = true then
  bp (f_X7_fillWithChain_l1 S a1 a2 a3 (-1)) (fun S2 =>
  some (true, S2))
 else
  some (false, S)))
set_option maxRecDepth 100000 in
set_option maxHeartbeats 4000000 in
theorem c_X11_fillChain {g : KG} {q : Nat → Nat} {E : va_W} {S : CS} {a1 : Int32} {a2 : Int32} {a3 : Int32} {r : Bool} {S' : CS} (h : f_X11_fillChain S a1 a2 a3 = some (r, S')) : ∀ l, kM l yX11_fillChain cX11_fillChain 4 (some .boolean) rm_X11_fillChain g [.ref (q 0), .int a1, .int a2, .int a3] (cx g q E S) (cx g q E S') (some (.int (b2 r))) 0 0 := by
  refine k_open_z (own := "MarkChains") (by decide) rfl (Nat.le_of_ble_eq_true rfl) (fun X C hR => ?_)
  refine (?_ : jJ X g ((r, S') : Bool × CS) (cx g q E S) 0 0 0 [(0, .ref (q 0)), (1, .int a1), (2, .int a2), (3, .int a3)] [] (f_X11_fillChain S a1 a2 a3)) h
  unfold f_X11_fillChain
  refine r_aload_n (pc := 0) C dX11_fillChain_0 0 rfl ?_
  refine r_iload_n (pc := 1) C dX11_fillChain_1 1 rfl ?_
  refine r_iload_n (pc := 2) C dX11_fillChain_2 2 rfl ?_
  refine r_iload_n (pc := 3) C dX11_fillChain_3 3 rfl ?_
  refine r_cVpz (As := [.int a1, .int a2, .int a3]) (st := []) (pc := 4) C (fun _ h => c_X11_isAsked h) kY_X11_isAsked kw_4_111 kw_0_25 kw_4_109 rfl ⟨Nat.le_of_ble_eq_true rfl, Nat.le_of_ble_eq_true rfl⟩ rfl rfl ⟨Nat.zero_le _, Nat.zero_le _⟩ 0 rfl rfl rfl (Nat.le_of_ble_eq_true rfl) dX11_fillChain_4 (fun x1 => ?_)
  refine r_ifb_ne 12 (pc := 7) C dX11_fillChain_7 (by decide) ?_ ?_
  · refine r_aload_n (pc := 12) C dX11_fillChain_12 0 rfl ?_
    refine xg_x_line (pc := 13) C kw_2_80 dX11_fillChain_13 ?_
    refine r_iload_n (pc := 16) C dX11_fillChain_16 1 rfl ?_
    refine r_iload_n (pc := 17) C dX11_fillChain_17 2 rfl ?_
    refine r_iload_n (pc := 18) C dX11_fillChain_18 3 rfl ?_
    refine r_iconst (pc := 19) C dX11_fillChain_19 (v := (-1)) (by decide) ?_
    refine r_cVwv (As := [.int a1, .int a2, .int a3, .int (-1)]) (st := []) (wf := cx g q E) (pc := 20) C (fun _ h => c_X7_fillWithChain_l1 h) kY_X7_fillWithChain kw_4_117 kw_4_118 kw_4_116 rfl ⟨Nat.le_of_ble_eq_true rfl, Nat.le_of_ble_eq_true rfl⟩ rfl rfl ⟨Nat.zero_le _, Nat.zero_le _⟩ 35 rfl rfl rfl (Nat.le_of_ble_eq_true rfl) dX11_fillChain_20 (fun S2 => ?_)
    refine r_iconst (pc := 23) C dX11_fillChain_23 (v := 1) (by decide) ?_
    exact r_retWZ hR rfl (pc := 24) dX11_fillChain_24
  · refine r_iconst (pc := 10) C dX11_fillChain_10 (v := 0) (by decide) ?_
    exact r_retWZ hR rfl (pc := 11) dX11_fillChain_11
set_option maxRecDepth 100000 in
theorem w_X11_fillChain {S : CS} {a1 : Int32} {a2 : Int32} {a3 : Int32} {r : Bool} {S' : CS} (h : f_X11_fillChain S a1 a2 a3 = some (r, S')) : gI [21] [37] S S' := by
  have hS : gI [21] [37] S S := gI_rf
  refine (?_ : jf (gI [21] [37] S) Prod.snd (f_X11_fillChain S a1 a2 a3)) _ h
  unfold f_X11_fillChain
  refine f_bp (fun x1 => ?_)
  refine f_ite ?_ ?_
  · refine f_bpS (fun _ h => gI_tr hS (w_X7_fillWithChain_l1 h) (by decide) (by decide)) (fun S2 hS2 => ?_)
    exact f_some hS2
  · exact f_some hS
abbrev rm_X7_countOrPick_l1 : Room := { frames := 0, cells := 0, slots := 0, locals := 0 }
theorem kY_X7_countOrPick : kY yX7_countOrPick cX7_countOrPick 2 (some .int) 1 := ⟨kw_1_10, kw_4_144, by decide, by decide, by decide +kernel⟩
def f_X7_countOrPick_l1 (S : CS) (a1 : Int32) : Option (Int32) :=
  (if a1 = (-1) then
  some (S.1 21)
 else
  (if a1 < 0 then
  some (-2)
 else
  (if (S.1 21) ≤ a1 then
  some (-2)
 else
  chk a1 60 (
  some (S.2.1 37 a1.toNatClampNeg)))))
set_option maxRecDepth 100000 in
set_option maxHeartbeats 4000000 in
theorem c_X7_countOrPick_l1 {g : KG} {q : Nat → Nat} {E : va_W} {S : CS} {a1 : Int32} {r : Int32} (h : f_X7_countOrPick_l1 S a1 = some r) : ∀ l, kM l yX7_countOrPick cX7_countOrPick 2 (some .int) rm_X7_countOrPick_l1 g [.ref (q 36), .int a1] (cx g q E S) (cx g q E S) (some (.int r)) 0 0 := by
  refine k_open_i (own := "MarkChains$Line") (by decide) rfl (Nat.le_of_ble_eq_true rfl) (fun X C hR => ?_)
  refine (?_ : jJ X g (r : Int32) (cx g q E S) 0 0 0 [(0, .ref (q 36)), (1, .int a1)] [] (f_X7_countOrPick_l1 S a1)) h
  unfold f_X7_countOrPick_l1
  refine r_iload_n (pc := 0) C dX7_countOrPick_0 1 rfl ?_
  refine r_iconst (pc := 1) C dX7_countOrPick_1 (v := (-1)) (by decide) ?_
  refine r_icmp_ne 10 (pc := 2) C dX7_countOrPick_2 (by decide) ?_ ?_
  · refine r_iload_n (pc := 10) C dX7_countOrPick_10 1 rfl ?_
    refine r_if_lt 31 (pc := 11) C dX7_countOrPick_11 (by decide) ?_ ?_
    · refine r_bipush (pc := 31) C dX7_countOrPick_31 (v := (-2)) (by decide) ?_
      exact r_retPI hR (pc := 33) dX7_countOrPick_33
    · refine r_iload_n (pc := 14) C dX7_countOrPick_14 1 rfl ?_
      refine r_aload_n (pc := 15) C dX7_countOrPick_15 0 rfl ?_
      refine xg_l1_size (pc := 16) C kw_2_29 dX7_countOrPick_16 ?_
      refine r_icmp_ge 31 (pc := 19) C dX7_countOrPick_19 (by decide) ?_ ?_
      · refine r_bipush (pc := 31) C dX7_countOrPick_31 (v := (-2)) (by decide) ?_
        exact r_retPI hR (pc := 33) dX7_countOrPick_33
      · refine r_aload_n (pc := 22) C dX7_countOrPick_22 0 rfl ?_
        refine xg_l1_numbers (pc := 23) C kw_2_26 dX7_countOrPick_23 ?_
        refine r_iload_n (pc := 26) C dX7_countOrPick_26 1 rfl ?_
        refine xl_l1_numbers (pc := 27) C dX7_countOrPick_27 ?_
        refine r_goto 33 (pc := 28) C dX7_countOrPick_28 (by decide) ?_
        exact r_retPI hR (pc := 33) dX7_countOrPick_33
  · refine r_aload_n (pc := 5) C dX7_countOrPick_5 0 rfl ?_
    refine xg_l1_size (pc := 6) C kw_2_29 dX7_countOrPick_6 ?_
    exact r_retPI hR (pc := 9) dX7_countOrPick_9
abbrev rm_X11_chain : Room := { frames := 5, cells := 0, slots := 0, locals := 117 }
theorem kY_X11_chain : kY yX11_chain cX11_chain 5 (some .int) 4 := ⟨kw_1_1, kw_4_104, by decide, by decide, by decide +kernel⟩
def f_X11_chain (S : CS) (a1 : Int32) (a2 : Int32) (a3 : Int32) (a4 : Int32) : Option (Int32 × CS) :=
  bw (f_X11_fillChain S a1 a2 a3) (fun x1 S2 =>
  (if x1 = true then
  bp (f_X7_countOrPick_l1 S2 a4) (fun x3 =>
  some (x3, S2))
 else
  some ((-2), S2)))
set_option maxRecDepth 100000 in
set_option maxHeartbeats 4000000 in
theorem c_X11_chain {g : KG} {q : Nat → Nat} {E : va_W} {S : CS} {a1 : Int32} {a2 : Int32} {a3 : Int32} {a4 : Int32} {r : Int32} {S' : CS} (h : f_X11_chain S a1 a2 a3 a4 = some (r, S')) : ∀ l, kM l yX11_chain cX11_chain 5 (some .int) rm_X11_chain g [.ref (q 0), .int a1, .int a2, .int a3, .int a4] (cx g q E S) (cx g q E S') (some (.int r)) 0 0 := by
  refine k_open_i (own := "MarkChains") (by decide) rfl (Nat.le_of_ble_eq_true rfl) (fun X C hR => ?_)
  refine (?_ : jJ X g ((r, S') : Int32 × CS) (cx g q E S) 0 0 0 [(0, .ref (q 0)), (1, .int a1), (2, .int a2), (3, .int a3), (4, .int a4)] [] (f_X11_chain S a1 a2 a3 a4)) h
  unfold f_X11_chain
  refine r_aload_n (pc := 0) C dX11_chain_0 0 rfl ?_
  refine r_iload_n (pc := 1) C dX11_chain_1 1 rfl ?_
  refine r_iload_n (pc := 2) C dX11_chain_2 2 rfl ?_
  refine r_iload_n (pc := 3) C dX11_chain_3 3 rfl ?_
  refine r_cVwz (As := [.int a1, .int a2, .int a3]) (st := []) (wf := cx g q E) (pc := 4) C (fun _ _ h => c_X11_fillChain h) kY_X11_fillChain kw_4_107 kw_0_24 kw_4_105 rfl ⟨Nat.le_of_ble_eq_true rfl, Nat.le_of_ble_eq_true rfl⟩ rfl rfl ⟨Nat.zero_le _, Nat.zero_le _⟩ 0 rfl rfl rfl (Nat.le_of_ble_eq_true rfl) dX11_chain_4 (fun x1 S2 => ?_)
  refine r_ifb_ne 13 (pc := 7) C dX11_chain_7 (by decide) ?_ ?_
  · refine r_aload_n (pc := 13) C dX11_chain_13 0 rfl ?_
    refine xg_x_line (pc := 14) C kw_2_80 dX11_chain_14 ?_
    refine r_iload (pc := 17) C dX11_chain_17 4 rfl ?_
    refine r_cVpi (As := [.int a4]) (st := []) (pc := 19) C (fun _ h => c_X7_countOrPick_l1 h) kY_X7_countOrPick kw_4_142 kw_4_143 kw_4_141 rfl ⟨Nat.le_of_ble_eq_true rfl, Nat.le_of_ble_eq_true rfl⟩ rfl rfl ⟨Nat.zero_le _, Nat.zero_le _⟩ 35 rfl rfl rfl (Nat.le_of_ble_eq_true rfl) dX11_chain_19 (fun x3 => ?_)
    exact r_retWI (wf := cx g q E) hR (pc := 22) dX11_chain_22
  · refine r_bipush (pc := 10) C dX11_chain_10 (v := (-2)) (by decide) ?_
    exact r_retWI (wf := cx g q E) hR (pc := 12) dX11_chain_12
set_option maxRecDepth 100000 in
theorem w_X11_chain {S : CS} {a1 : Int32} {a2 : Int32} {a3 : Int32} {a4 : Int32} {r : Int32} {S' : CS} (h : f_X11_chain S a1 a2 a3 a4 = some (r, S')) : gI [21] [37] S S' := by
  have hS : gI [21] [37] S S := gI_rf
  refine (?_ : jf (gI [21] [37] S) Prod.snd (f_X11_chain S a1 a2 a3 a4)) _ h
  unfold f_X11_chain
  refine f_bwS (fun _ _ h => gI_tr hS (w_X11_fillChain h) (by decide) (by decide)) (fun x1 S2 hS2 => ?_)
  refine f_ite ?_ ?_
  · refine f_bp (fun x3 => ?_)
    exact f_some hS2
  · exact f_some hS2
abbrev rm_X7_lastValue_l1 : Room := { frames := 0, cells := 0, slots := 0, locals := 0 }
theorem kY_X7_lastValue : kY yX7_lastValue cX7_lastValue 1 (some .int) 0 := ⟨kw_1_10, kw_4_152, by decide, by decide, by decide +kernel⟩
def f_X7_lastValue_l1 (S : CS) : Option (Int32) :=
  (if (S.1 21) = 0 then
  some (-1)
 else
  chk ((S.1 21) - 1) 60 (
  chk (S.2.1 37 ((S.1 21) - 1).toNatClampNeg) 60 (
  some (S.2.1 18 (S.2.1 37 ((S.1 21) - 1).toNatClampNeg).toNatClampNeg))))
set_option maxRecDepth 100000 in
set_option maxHeartbeats 4000000 in
theorem c_X7_lastValue_l1 {g : KG} {q : Nat → Nat} {E : va_W} {S : CS}  {r : Int32} (h : f_X7_lastValue_l1 S = some r) : ∀ l, kM l yX7_lastValue cX7_lastValue 1 (some .int) rm_X7_lastValue_l1 g [.ref (q 36)] (cx g q E S) (cx g q E S) (some (.int r)) 0 0 := by
  refine k_open_i (own := "MarkChains$Line") (by decide) rfl (Nat.le_of_ble_eq_true rfl) (fun X C hR => ?_)
  refine (?_ : jJ X g (r : Int32) (cx g q E S) 0 0 0 [(0, .ref (q 36))] [] (f_X7_lastValue_l1 S)) h
  unfold f_X7_lastValue_l1
  refine r_aload_n (pc := 0) C dX7_lastValue_0 0 rfl ?_
  refine xg_l1_size (pc := 1) C kw_2_29 dX7_lastValue_1 ?_
  refine r_if_ne 11 (pc := 4) C dX7_lastValue_4 (by decide) ?_ ?_
  · refine r_aload_n (pc := 11) C dX7_lastValue_11 0 rfl ?_
    refine xg_l1_book (pc := 12) C kw_2_25 dX7_lastValue_12 ?_
    refine xgN_bk_value (pc := 15) C knf_23 dX7_lastValue_15 ?_
    refine r_aload_n (pc := 18) C dX7_lastValue_18 0 rfl ?_
    refine xg_l1_numbers (pc := 19) C kw_2_26 dX7_lastValue_19 ?_
    refine r_aload_n (pc := 22) C dX7_lastValue_22 0 rfl ?_
    refine xg_l1_size (pc := 23) C kw_2_29 dX7_lastValue_23 ?_
    refine r_iconst (pc := 26) C dX7_lastValue_26 (v := 1) (by decide) ?_
    refine r_isub (pc := 27) C dX7_lastValue_27 ?_
    refine xl_l1_numbers (pc := 28) C dX7_lastValue_28 ?_
    refine xl_bk_value (pc := 29) C dX7_lastValue_29 ?_
    exact r_retPI hR (pc := 30) dX7_lastValue_30
  · refine r_iconst (pc := 7) C dX7_lastValue_7 (v := (-1)) (by decide) ?_
    refine r_goto 30 (pc := 8) C dX7_lastValue_8 (by decide) ?_
    exact r_retPI hR (pc := 30) dX7_lastValue_30
