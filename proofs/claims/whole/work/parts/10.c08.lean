abbrev rm_X11_ended : Room := { frames := 0, cells := 0, slots := 0, locals := 0 }
theorem kY_X11_ended : kY yX11_ended cX11_ended 1 (some .int) 0 := ⟨kw_1_1, kw_5_145, by decide, by decide, by decide +kernel⟩
def f_X11_ended (S : CS) : Option (Int32) :=
  some (S.1 18)
set_option maxRecDepth 100000 in
set_option maxHeartbeats 4000000 in
theorem c_X11_ended {g : KG} {q : Nat → Nat} {E : va_W} {S : CS}  {r : Int32} (h : f_X11_ended S = some r) : ∀ l, kM l yX11_ended cX11_ended 1 (some .int) rm_X11_ended g [.ref (q 0)] (cx g q E S) (cx g q E S) (some (.int r)) 0 0 := by
  refine k_open_i (own := "MarkChains") (by decide) rfl (Nat.le_of_ble_eq_true rfl) (fun X C hR => ?_)
  refine (?_ : jJ X g (r : Int32) (cx g q E S) 0 0 0 [(0, .ref (q 0))] [] (f_X11_ended S)) h
  unfold f_X11_ended
  refine r_aload_n (pc := 0) C dX11_ended_0 0 rfl ?_
  refine xg_x_plan (pc := 1) C kw_2_78 dX11_ended_1 ?_
  refine xgN_ac_endedBy (pc := 4) C knf_34 dX11_ended_4 ?_
  exact r_retPI hR (pc := 7) dX11_ended_7
abbrev rm_X11_row : Room := { frames := 0, cells := 0, slots := 0, locals := 0 }
theorem kY_X11_row : kY yX11_row cX11_row 2 (some .int) 1 := ⟨kw_1_1, kw_5_149, by decide, by decide, by decide +kernel⟩
def f_X11_row (S : CS) (a1 : Int32) : Option (Int32) :=
  (if a1 < 0 then
  some (-1)
 else
  (if (S.1 17) ≤ a1 then
  some (-1)
 else
  chk a1 30 (
  some (S.2.1 33 a1.toNatClampNeg))))
set_option maxRecDepth 100000 in
set_option maxHeartbeats 4000000 in
theorem c_X11_row {g : KG} {q : Nat → Nat} {E : va_W} {S : CS} {a1 : Int32} {r : Int32} (h : f_X11_row S a1 = some r) : ∀ l, kM l yX11_row cX11_row 2 (some .int) rm_X11_row g [.ref (q 0), .int a1] (cx g q E S) (cx g q E S) (some (.int r)) 0 0 := by
  refine k_open_i (own := "MarkChains") (by decide) rfl (Nat.le_of_ble_eq_true rfl) (fun X C hR => ?_)
  refine (?_ : jJ X g (r : Int32) (cx g q E S) 0 0 0 [(0, .ref (q 0)), (1, .int a1)] [] (f_X11_row S a1)) h
  unfold f_X11_row
  refine r_iload_n (pc := 0) C dX11_row_0 1 rfl ?_
  refine r_if_lt 27 (pc := 1) C dX11_row_1 (by decide) ?_ ?_
  · refine r_iconst (pc := 27) C dX11_row_27 (v := (-1)) (by decide) ?_
    exact r_retPI hR (pc := 28) dX11_row_28
  · refine r_iload_n (pc := 4) C dX11_row_4 1 rfl ?_
    refine r_aload_n (pc := 5) C dX11_row_5 0 rfl ?_
    refine xg_x_plan (pc := 6) C kw_2_78 dX11_row_6 ?_
    refine xgN_ac_done (pc := 9) C knf_33 dX11_row_9 ?_
    refine r_icmp_ge 27 (pc := 12) C dX11_row_12 (by decide) ?_ ?_
    · refine r_iconst (pc := 27) C dX11_row_27 (v := (-1)) (by decide) ?_
      exact r_retPI hR (pc := 28) dX11_row_28
    · refine r_aload_n (pc := 15) C dX11_row_15 0 rfl ?_
      refine xg_x_plan (pc := 16) C kw_2_78 dX11_row_16 ?_
      refine xgN_ac_answers (pc := 19) C knf_32 dX11_row_19 ?_
      refine r_iload_n (pc := 22) C dX11_row_22 1 rfl ?_
      refine xl_ac_answers (pc := 23) C dX11_row_23 ?_
      refine r_goto 28 (pc := 24) C dX11_row_24 (by decide) ?_
      exact r_retPI hR (pc := 28) dX11_row_28
abbrev rm_X7_fillWithPersonal_l1 : Room := { frames := 3, cells := 0, slots := 0, locals := 68 }
theorem kY_X7_fillWithPersonal : kY yX7_fillWithPersonal cX7_fillWithPersonal 6 none 3 := ⟨kw_1_10, kw_5_157, by decide, by decide, by decide +kernel⟩
def L_X7_fillWithPersonal_l1_8 (c1 : Int32) (c2 : Int32) (c3 : Int32) (k6 : CS → Option (CS)) : Nat → CS → Int32 → Option (CS) := lo2 fun rec4 S3 x2 =>
  (if (S3.1 6) ≤ x2 then
  k6 S3
 else
  chk x2 60 (
  lt (S3.2.1 24 x2.toNatClampNeg) fun x8 =>
  chk x8 60 (
  (if (S3.2.1 14 x8.toNatClampNeg) = c1 then
  bp (f_X1_isListed S3 x8 c2 0 c3) (fun x10 =>
  (if x10 = true then
  jn0 (bp (f_X7_append_l1 S3 x8) (fun S12 =>
  lt (x2 + 1) fun x13 =>
  rec4 S12 x13)) (fun k14 =>
  (if (S3.1 21) = 0 then
  k14
 else
  chk ((S3.1 21) - 1) 60 (
  bp (f_X1_isBetter S3 x8 (S3.2.1 37 ((S3.1 21) - 1).toNatClampNeg)) (fun x16 =>
  (if x16 = true then
  k14
 else
  lt (x2 + 1) fun x17 =>
  rec4 S3 x17)))))
 else
  lt (x2 + 1) fun x11 =>
  rec4 S3 x11))
 else
  lt (x2 + 1) fun x9 =>
  rec4 S3 x9))))
set_option maxRecDepth 100000 in
set_option maxHeartbeats 4000000 in
theorem l_X7_fillWithPersonal_l1_8 {X : KX} {g : KG} {q : Nat → Nat} {E : va_W} {res : CS} (C : kC X g cX7_fillWithPersonal "MarkChains$Line" rm_X7_fillWithPersonal_l1 6) (hR : ∀ (pc : Nat) (lv : List (Nat × Value)), decode cX7_fillWithPersonal pc = .ok (.return_, 1) → jW X g (cx g q E res) 0 0 pc lv []) (c1 : Int32) (c2 : Int32) (c3 : Int32) (k6 : CS → Option (CS)) (hk7 : ∀ (S18 : CS), jJ X g res (cx g q E S18) 0 0 103 [] [] (k6 S18)) : ∀ (n : Nat) (S3 : CS) (x2 : Int32), jJ X g res (cx g q E S3) 0 0 8 [(0, .ref (q 36)), (1, .int c1), (2, .int c2), (3, .int c3), (4, .int x2)] [] (L_X7_fillWithPersonal_l1_8 c1 c2 c3 k6 n S3 x2) := by
  refine r_lo2 (fun S3 x2 => cx g q E S3) (fun S3 x2 => [(0, .ref (q 36)), (1, .int c1), (2, .int c2), (3, .int c3), (4, .int x2)]) (fun rec4 ih5 S3 x2 => ?_)
  refine r_iload (pc := 8) C dX7_fillWithPersonal_8 4 rfl ?_
  refine r_aload_n (pc := 10) C dX7_fillWithPersonal_10 0 rfl ?_
  refine xg_l1_book (pc := 11) C kw_2_25 dX7_fillWithPersonal_11 ?_
  refine xgN_bk_size (pc := 14) C knf_29 dX7_fillWithPersonal_14 ?_
  refine r_icmp_ge 103 (pc := 17) C dX7_fillWithPersonal_17 (by decide) ?_ ?_
  · refine r_sub (lv' := []) [] rfl ?_
    exact hk7 S3
  · refine r_aload_n (pc := 20) C dX7_fillWithPersonal_20 0 rfl ?_
    refine xg_l1_book (pc := 21) C kw_2_25 dX7_fillWithPersonal_21 ?_
    refine xgN_bk_order (pc := 24) C knf_28 dX7_fillWithPersonal_24 ?_
    refine r_iload (pc := 27) C dX7_fillWithPersonal_27 4 rfl ?_
    refine xl_bk_order (pc := 29) C dX7_fillWithPersonal_29 ?_
    refine r_istoreV (pc := 30) C dX7_fillWithPersonal_30 (lv' := fun x8 => [(0, .ref (q 36)), (1, .int c1), (2, .int c2), (3, .int c3), (4, .int x2), (5, .int x8)]) (by decide) [1, 2, 3, 4, 5, 0] (fun _ => rfl) (fun x8 => ?_)
    refine r_aload_n (pc := 32) C dX7_fillWithPersonal_32 0 rfl ?_
    refine xg_l1_book (pc := 33) C kw_2_25 dX7_fillWithPersonal_33 ?_
    refine xgN_bk_athlete (pc := 36) C knf_18 dX7_fillWithPersonal_36 ?_
    refine r_iload (pc := 39) C dX7_fillWithPersonal_39 5 rfl ?_
    refine xl_bk_athlete (pc := 41) C dX7_fillWithPersonal_41 ?_
    refine r_iload_n (pc := 42) C dX7_fillWithPersonal_42 1 rfl ?_
    refine r_icmp_ne 97 (pc := 43) C dX7_fillWithPersonal_43 (by decide) ?_ ?_
    · refine r_iinc (pc := 97) C dX7_fillWithPersonal_97 (v := 1) (lv' := fun x9 => [(0, .ref (q 36)), (1, .int c1), (2, .int c2), (3, .int c3), (4, .int x9), (5, .int x8)]) 4 rfl (by decide) (by decide) [1, 2, 3, 4, 0, 5] (fun _ => rfl) (fun x9 => ?_)
      refine r_goto 8 (pc := 100) C dX7_fillWithPersonal_100 (by decide) ?_
      refine r_sub (lv' := [(0, .ref (q 36)), (1, .int c1), (2, .int c2), (3, .int c3), (4, .int x9)]) [0, 1, 2, 3, 4] rfl ?_
      exact ih5 S3 x9
    · refine r_aload_n (pc := 46) C dX7_fillWithPersonal_46 0 rfl ?_
      refine xg_l1_book (pc := 47) C kw_2_25 dX7_fillWithPersonal_47 ?_
      refine r_iload (pc := 50) C dX7_fillWithPersonal_50 5 rfl ?_
      refine r_iload_n (pc := 52) C dX7_fillWithPersonal_52 2 rfl ?_
      refine r_iconst (pc := 53) C dX7_fillWithPersonal_53 (v := 0) (by decide) ?_
      refine r_iload_n (pc := 54) C dX7_fillWithPersonal_54 3 rfl ?_
      refine r_cVpz (As := [.int x8, .int c2, .int 0, .int c3]) (st := []) (pc := 55) C (fun _ h => c_X1_isListed h) kY_X1_isListed kw_4_121 kw_4_122 kw_4_120 rfl ⟨Nat.le_of_ble_eq_true rfl, Nat.le_of_ble_eq_true rfl⟩ rfl rfl ⟨Nat.zero_le _, Nat.zero_le _⟩ 3 rfl rfl rfl (Nat.le_of_ble_eq_true rfl) dX7_fillWithPersonal_55 (fun x10 => ?_)
      refine r_ifb_eq 97 (pc := 58) C dX7_fillWithPersonal_58 (by decide) ?_ ?_
      · refine r_iinc (pc := 97) C dX7_fillWithPersonal_97 (v := 1) (lv' := fun x11 => [(0, .ref (q 36)), (1, .int c1), (2, .int c2), (3, .int c3), (4, .int x11), (5, .int x8)]) 4 rfl (by decide) (by decide) [1, 2, 3, 4, 0, 5] (fun _ => rfl) (fun x11 => ?_)
        refine r_goto 8 (pc := 100) C dX7_fillWithPersonal_100 (by decide) ?_
        refine r_sub (lv' := [(0, .ref (q 36)), (1, .int c1), (2, .int c2), (3, .int c3), (4, .int x11)]) [0, 1, 2, 3, 4] rfl ?_
        exact ih5 S3 x11
      · refine r_aload_n (pc := 61) C dX7_fillWithPersonal_61 0 rfl ?_
        refine xg_l1_size (pc := 62) C kw_2_29 dX7_fillWithPersonal_62 ?_
        refine r_jn0 91 (cx g q E S3) ([(0, .ref (q 36)), (1, .int c1), (2, .int c2), (3, .int c3), (4, .int x2), (5, .int x8)]) ([]) ?_ (fun k14 hk15 => ?_)
        · refine r_aload_n (pc := 91) C dX7_fillWithPersonal_91 0 rfl ?_
          refine r_iload (pc := 92) C dX7_fillWithPersonal_92 5 rfl ?_
          refine r_cVwv (As := [.int x8]) (st := []) (wf := cx g q E) (pc := 94) C (fun _ h => c_X7_append_l1 h) kY_X7_append kw_4_139 kw_0_26 kw_4_137 rfl ⟨Nat.le_of_ble_eq_true rfl, Nat.le_of_ble_eq_true rfl⟩ rfl rfl ⟨Nat.zero_le _, Nat.zero_le _⟩ 35 rfl rfl rfl (Nat.le_of_ble_eq_true rfl) dX7_fillWithPersonal_94 (fun S12 => ?_)
          refine r_iinc (pc := 97) C dX7_fillWithPersonal_97 (v := 1) (lv' := fun x13 => [(0, .ref (q 36)), (1, .int c1), (2, .int c2), (3, .int c3), (4, .int x13), (5, .int x8)]) 4 rfl (by decide) (by decide) [1, 2, 3, 4, 0, 5] (fun _ => rfl) (fun x13 => ?_)
          refine r_goto 8 (pc := 100) C dX7_fillWithPersonal_100 (by decide) ?_
          refine r_sub (lv' := [(0, .ref (q 36)), (1, .int c1), (2, .int c2), (3, .int c3), (4, .int x13)]) [0, 1, 2, 3, 4] rfl ?_
          exact ih5 S12 x13
        · refine r_if_eq 91 (pc := 65) C dX7_fillWithPersonal_65 (by decide) ?_ ?_
          · exact hk15
          · refine r_aload_n (pc := 68) C dX7_fillWithPersonal_68 0 rfl ?_
            refine xg_l1_book (pc := 69) C kw_2_25 dX7_fillWithPersonal_69 ?_
            refine r_iload (pc := 72) C dX7_fillWithPersonal_72 5 rfl ?_
            refine r_aload_n (pc := 74) C dX7_fillWithPersonal_74 0 rfl ?_
            refine xg_l1_numbers (pc := 75) C kw_2_26 dX7_fillWithPersonal_75 ?_
            refine r_aload_n (pc := 78) C dX7_fillWithPersonal_78 0 rfl ?_
            refine xg_l1_size (pc := 79) C kw_2_29 dX7_fillWithPersonal_79 ?_
            refine r_iconst (pc := 82) C dX7_fillWithPersonal_82 (v := 1) (by decide) ?_
            refine r_isub (pc := 83) C dX7_fillWithPersonal_83 ?_
            refine xl_l1_numbers (pc := 84) C dX7_fillWithPersonal_84 ?_
            refine r_cVpz (As := [.int x8, .int (S3.2.1 37 ((S3.1 21) - 1).toNatClampNeg)]) (st := []) (pc := 85) C (fun _ h => c_X1_isBetter h) kY_X1_isBetter kw_4_126 kw_4_127 kw_4_125 rfl ⟨Nat.le_of_ble_eq_true rfl, Nat.le_of_ble_eq_true rfl⟩ rfl rfl ⟨Nat.zero_le _, Nat.zero_le _⟩ 3 rfl rfl rfl (Nat.le_of_ble_eq_true rfl) dX7_fillWithPersonal_85 (fun x16 => ?_)
            refine r_ifb_eq 97 (pc := 88) C dX7_fillWithPersonal_88 (by decide) ?_ ?_
            · refine r_iinc (pc := 97) C dX7_fillWithPersonal_97 (v := 1) (lv' := fun x17 => [(0, .ref (q 36)), (1, .int c1), (2, .int c2), (3, .int c3), (4, .int x17), (5, .int x8)]) 4 rfl (by decide) (by decide) [1, 2, 3, 4, 0, 5] (fun _ => rfl) (fun x17 => ?_)
              refine r_goto 8 (pc := 100) C dX7_fillWithPersonal_100 (by decide) ?_
              refine r_sub (lv' := [(0, .ref (q 36)), (1, .int c1), (2, .int c2), (3, .int c3), (4, .int x17)]) [0, 1, 2, 3, 4] rfl ?_
              exact ih5 S3 x17
            · exact hk15
set_option maxRecDepth 100000 in
theorem v_X7_fillWithPersonal_l1_8 {S0 : CS} {c1 : Int32} {c2 : Int32} {c3 : Int32} {k6 : CS → Option (CS)} (hk7 : ∀ (S18 : CS), (gI [21] [37] S0) S18 → jf (gI [21] [37] S0) id (k6 S18)) : ∀ (n : Nat) (S3 : CS) (x2 : Int32), (gI [21] [37] S0) S3 → jf (gI [21] [37] S0) id (L_X7_fillWithPersonal_l1_8 c1 c2 c3 k6 n S3 x2) := by
  refine f_lo2 (I := (gI [21] [37] S0)) (fun S3 x2 => S3) (fun rec4 ih5 S3 x2 hS3 => ?_)
  refine f_ite ?_ ?_
  · exact hk7 S3 hS3
  · refine f_chk ?_
    refine f_lt (fun x8 => ?_)
    refine f_chk ?_
    refine f_ite ?_ ?_
    · refine f_bp (fun x10 => ?_)
      refine f_ite ?_ ?_
      · refine f_jm0 hS3 (fun  hS3 => ?_) (fun k14 hk15 => ?_)
        · refine f_bpS (fun _ h => gI_tr hS3 (w_X7_append_l1 h) (by decide) (by decide)) (fun S12 hS12 => ?_)
          refine f_lt (fun x13 => ?_)
          exact ih5 S12 x13 hS12
        · refine f_ite ?_ ?_
          · exact hk15 hS3
          · refine f_chk ?_
            refine f_bp (fun x16 => ?_)
            refine f_ite ?_ ?_
            · exact hk15 hS3
            · refine f_lt (fun x17 => ?_)
              exact ih5 S3 x17 hS3
      · refine f_lt (fun x11 => ?_)
        exact ih5 S3 x11 hS3
    · refine f_lt (fun x9 => ?_)
      exact ih5 S3 x9 hS3
def f_X7_fillWithPersonal_l1 (S : CS) (a1 : Int32) (a2 : Int32) (a3 : Int32) : Option (CS) :=
  lt (ci S 21 0) fun S1 =>
  L_X7_fillWithPersonal_l1_8 a1 a2 a3 (fun S19 =>
  some S19) FU S1 0
set_option maxRecDepth 100000 in
set_option maxHeartbeats 4000000 in
theorem c_X7_fillWithPersonal_l1 {g : KG} {q : Nat → Nat} {E : va_W} {S : CS} {a1 : Int32} {a2 : Int32} {a3 : Int32} {S' : CS} (h : f_X7_fillWithPersonal_l1 S a1 a2 a3 = some S') : ∀ l, kM l yX7_fillWithPersonal cX7_fillWithPersonal 6 none rm_X7_fillWithPersonal_l1 g [.ref (q 36), .int a1, .int a2, .int a3] (cx g q E S) (cx g q E S') (none) 0 0 := by
  refine k_open_v (own := "MarkChains$Line") (by decide) rfl (Nat.le_of_ble_eq_true rfl) (fun X C hR => ?_)
  refine (?_ : jJ X g (S' : CS) (cx g q E S) 0 0 0 [(0, .ref (q 36)), (1, .int a1), (2, .int a2), (3, .int a3)] [] (f_X7_fillWithPersonal_l1 S a1 a2 a3)) h
  unfold f_X7_fillWithPersonal_l1
  refine r_aload_n (pc := 0) C dX7_fillWithPersonal_0 0 rfl ?_
  refine r_iconst (pc := 1) C dX7_fillWithPersonal_1 (v := 0) (by decide) ?_
  refine xp_l1_size (pc := 2) C kw_2_29 dX7_fillWithPersonal_2 (fun S1 => ?_)
  refine r_iconst (pc := 5) C dX7_fillWithPersonal_5 (v := 0) (by decide) ?_
  refine r_istore (pc := 6) C dX7_fillWithPersonal_6 (lv' := [(0, .ref (q 36)), (1, .int a1), (2, .int a2), (3, .int a3), (4, .int 0)]) (by decide) [1, 2, 3, 4, 0] rfl ?_
  refine l_X7_fillWithPersonal_l1_8 C hR a1 a2 a3 _ (fun S19 => ?_) FU S1 0
  exact r_retWV (wf := cx g q E) hR (pc := 103) dX7_fillWithPersonal_103
set_option maxRecDepth 100000 in
theorem w_X7_fillWithPersonal_l1 {S : CS} {a1 : Int32} {a2 : Int32} {a3 : Int32} {S' : CS} (h : f_X7_fillWithPersonal_l1 S a1 a2 a3 = some S') : gI [21] [37] S S' := by
  have hS : gI [21] [37] S S := gI_rf
  refine (?_ : jf (gI [21] [37] S) id (f_X7_fillWithPersonal_l1 S a1 a2 a3)) _ h
  unfold f_X7_fillWithPersonal_l1
  refine f_ltS (gI_ci hS (by decide)) (fun S1 hS1 => ?_)
  refine v_X7_fillWithPersonal_l1_8 (fun S19 hS19 => ?_) FU S1 0 hS1
  exact f_some hS19
abbrev rm_X11_personal : Room := { frames := 4, cells := 0, slots := 0, locals := 93 }
theorem kY_X11_personal : kY yX11_personal cX11_personal 4 (some .int) 3 := ⟨kw_1_1, kw_5_153, by decide, by decide, by decide +kernel⟩
def f_X11_personal (S : CS) (a1 : Int32) (a2 : Int32) (a3 : Int32) : Option (Int32 × CS) :=
  bp (f_X8_has_pa S a1) (fun x1 =>
  (if x1 = true then
  bp (f_X8_has_pe S a2) (fun x2 =>
  (if x2 = true then
  bp (f_X7_fillWithPersonal_l1 S a1 a2 (S.1 0)) (fun S3 =>
  bp (f_X7_countOrPick_l1 S3 a3) (fun x4 =>
  some (x4, S3)))
 else
  some ((-2), S)))
 else
  some ((-2), S)))
set_option maxRecDepth 100000 in
set_option maxHeartbeats 4000000 in
theorem c_X11_personal {g : KG} {q : Nat → Nat} {E : va_W} {S : CS} {a1 : Int32} {a2 : Int32} {a3 : Int32} {r : Int32} {S' : CS} (h : f_X11_personal S a1 a2 a3 = some (r, S')) : ∀ l, kM l yX11_personal cX11_personal 4 (some .int) rm_X11_personal g [.ref (q 0), .int a1, .int a2, .int a3] (cx g q E S) (cx g q E S') (some (.int r)) 0 0 := by
  refine k_open_i (own := "MarkChains") (by decide) rfl (Nat.le_of_ble_eq_true rfl) (fun X C hR => ?_)
  refine (?_ : jJ X g ((r, S') : Int32 × CS) (cx g q E S) 0 0 0 [(0, .ref (q 0)), (1, .int a1), (2, .int a2), (3, .int a3)] [] (f_X11_personal S a1 a2 a3)) h
  unfold f_X11_personal
  refine r_aload_n (pc := 0) C dX11_personal_0 0 rfl ?_
  refine xg_x_book (pc := 1) C kw_2_75 dX11_personal_1 ?_
  refine xgN_bk_athletes (pc := 4) C knf_16 dX11_personal_4 ?_
  refine r_iload_n (pc := 7) C dX11_personal_7 1 rfl ?_
  refine r_cVpz (As := [.int a1]) (st := []) (pc := 8) C (fun _ h => c_X8_has_pa h) kY_X8_has kw_3_46 kw_3_47 kw_4_58 rfl ⟨Nat.le_of_ble_eq_true rfl, Nat.le_of_ble_eq_true rfl⟩ rfl rfl ⟨Nat.zero_le _, Nat.zero_le _⟩ 10 rfl rfl rfl (Nat.le_of_ble_eq_true rfl) dX11_personal_8 (fun x1 => ?_)
  refine r_ifb_eq 28 (pc := 11) C dX11_personal_11 (by decide) ?_ ?_
  · refine r_bipush (pc := 28) C dX11_personal_28 (v := (-2)) (by decide) ?_
    exact r_retWI (wf := cx g q E) hR (pc := 30) dX11_personal_30
  · refine r_aload_n (pc := 14) C dX11_personal_14 0 rfl ?_
    refine xg_x_book (pc := 15) C kw_2_75 dX11_personal_15 ?_
    refine xgN_bk_events (pc := 18) C knf_12 dX11_personal_18 ?_
    refine r_iload_n (pc := 21) C dX11_personal_21 2 rfl ?_
    refine r_cVpz (As := [.int a2]) (st := []) (pc := 22) C (fun _ h => c_X8_has_pe h) kY_X8_has kw_3_46 kw_3_47 kw_4_58 rfl ⟨Nat.le_of_ble_eq_true rfl, Nat.le_of_ble_eq_true rfl⟩ rfl rfl ⟨Nat.zero_le _, Nat.zero_le _⟩ 4 rfl rfl rfl (Nat.le_of_ble_eq_true rfl) dX11_personal_22 (fun x2 => ?_)
    refine r_ifb_ne 31 (pc := 25) C dX11_personal_25 (by decide) ?_ ?_
    · refine r_aload_n (pc := 31) C dX11_personal_31 0 rfl ?_
      refine xg_x_line (pc := 32) C kw_2_80 dX11_personal_32 ?_
      refine r_iload_n (pc := 35) C dX11_personal_35 1 rfl ?_
      refine r_iload_n (pc := 36) C dX11_personal_36 2 rfl ?_
      refine r_aload_n (pc := 37) C dX11_personal_37 0 rfl ?_
      refine xg_x_today (pc := 38) C kw_2_86 dX11_personal_38 ?_
      refine r_cVwv (As := [.int a1, .int a2, .int (S.1 0)]) (st := []) (wf := cx g q E) (pc := 41) C (fun _ h => c_X7_fillWithPersonal_l1 h) kY_X7_fillWithPersonal kw_5_155 kw_5_156 kw_5_154 rfl ⟨Nat.le_of_ble_eq_true rfl, Nat.le_of_ble_eq_true rfl⟩ rfl rfl ⟨Nat.zero_le _, Nat.zero_le _⟩ 35 rfl rfl rfl (Nat.le_of_ble_eq_true rfl) dX11_personal_41 (fun S3 => ?_)
      refine r_aload_n (pc := 44) C dX11_personal_44 0 rfl ?_
      refine xg_x_line (pc := 45) C kw_2_80 dX11_personal_45 ?_
      refine r_iload_n (pc := 48) C dX11_personal_48 3 rfl ?_
      refine r_cVpi (As := [.int a3]) (st := []) (pc := 49) C (fun _ h => c_X7_countOrPick_l1 h) kY_X7_countOrPick kw_4_142 kw_4_143 kw_4_141 rfl ⟨Nat.le_of_ble_eq_true rfl, Nat.le_of_ble_eq_true rfl⟩ rfl rfl ⟨Nat.zero_le _, Nat.zero_le _⟩ 35 rfl rfl rfl (Nat.le_of_ble_eq_true rfl) dX11_personal_49 (fun x4 => ?_)
      exact r_retWI (wf := cx g q E) hR (pc := 52) dX11_personal_52
    · refine r_bipush (pc := 28) C dX11_personal_28 (v := (-2)) (by decide) ?_
      exact r_retWI (wf := cx g q E) hR (pc := 30) dX11_personal_30
set_option maxRecDepth 100000 in
theorem w_X11_personal {S : CS} {a1 : Int32} {a2 : Int32} {a3 : Int32} {r : Int32} {S' : CS} (h : f_X11_personal S a1 a2 a3 = some (r, S')) : gI [21] [37] S S' := by
  have hS : gI [21] [37] S S := gI_rf
  refine (?_ : jf (gI [21] [37] S) Prod.snd (f_X11_personal S a1 a2 a3)) _ h
  unfold f_X11_personal
  refine f_bp (fun x1 => ?_)
  refine f_ite ?_ ?_
  · refine f_bp (fun x2 => ?_)
    refine f_ite ?_ ?_
    · refine f_bpS (fun _ h => gI_tr hS (w_X7_fillWithPersonal_l1 h) (by decide) (by decide)) (fun S3 hS3 => ?_)
      refine f_bp (fun x4 => ?_)
      exact f_some hS3
    · exact f_some hS
  · exact f_some hS
abbrev rm_X7_fillWithSeason_l1 : Room := { frames := 4, cells := 0, slots := 0, locals := 87 }
theorem kY_X7_fillWithSeason : kY yX7_fillWithSeason cX7_fillWithSeason 6 none 3 := ⟨kw_1_10, kw_5_165, by decide, by decide, by decide +kernel⟩
def L_X7_fillWithSeason_l1_8 (c1 : Int32) (c2 : Int32) (c3 : Int32) (k6 : CS → Option (CS)) : Nat → CS → Int32 → Option (CS) := lo2 fun rec4 S3 x2 =>
  (if (S3.1 6) ≤ x2 then
  k6 S3
 else
  chk x2 60 (
  lt (S3.2.1 24 x2.toNatClampNeg) fun x8 =>
  chk x8 60 (
  (if ((S3.2.1 16 x8.toNatClampNeg) / 365) = c2 then
  bp (f_X1_isListed S3 x8 c1 0 c3) (fun x10 =>
  (if x10 = true then
  bp (f_X7_insertByValue_l1 S3 x8) (fun S12 =>
  lt (x2 + 1) fun x13 =>
  rec4 S12 x13)
 else
  lt (x2 + 1) fun x11 =>
  rec4 S3 x11))
 else
  lt (x2 + 1) fun x9 =>
  rec4 S3 x9))))
set_option maxRecDepth 100000 in
set_option maxHeartbeats 4000000 in
theorem l_X7_fillWithSeason_l1_8 {X : KX} {g : KG} {q : Nat → Nat} {E : va_W} {res : CS} (C : kC X g cX7_fillWithSeason "MarkChains$Line" rm_X7_fillWithSeason_l1 6) (hR : ∀ (pc : Nat) (lv : List (Nat × Value)), decode cX7_fillWithSeason pc = .ok (.return_, 1) → jW X g (cx g q E res) 0 0 pc lv []) (c1 : Int32) (c2 : Int32) (c3 : Int32) (k6 : CS → Option (CS)) (hk7 : ∀ (S14 : CS), jJ X g res (cx g q E S14) 0 0 77 [] [] (k6 S14)) : ∀ (n : Nat) (S3 : CS) (x2 : Int32), jJ X g res (cx g q E S3) 0 0 8 [(0, .ref (q 36)), (1, .int c1), (2, .int c2), (3, .int c3), (4, .int x2)] [] (L_X7_fillWithSeason_l1_8 c1 c2 c3 k6 n S3 x2) := by
  refine r_lo2 (fun S3 x2 => cx g q E S3) (fun S3 x2 => [(0, .ref (q 36)), (1, .int c1), (2, .int c2), (3, .int c3), (4, .int x2)]) (fun rec4 ih5 S3 x2 => ?_)
  refine r_iload (pc := 8) C dX7_fillWithSeason_8 4 rfl ?_
  refine r_aload_n (pc := 10) C dX7_fillWithSeason_10 0 rfl ?_
  refine xg_l1_book (pc := 11) C kw_2_25 dX7_fillWithSeason_11 ?_
  refine xgN_bk_size (pc := 14) C knf_29 dX7_fillWithSeason_14 ?_
  refine r_icmp_ge 77 (pc := 17) C dX7_fillWithSeason_17 (by decide) ?_ ?_
  · refine r_sub (lv' := []) [] rfl ?_
    exact hk7 S3
  · refine r_aload_n (pc := 20) C dX7_fillWithSeason_20 0 rfl ?_
    refine xg_l1_book (pc := 21) C kw_2_25 dX7_fillWithSeason_21 ?_
    refine xgN_bk_order (pc := 24) C knf_28 dX7_fillWithSeason_24 ?_
    refine r_iload (pc := 27) C dX7_fillWithSeason_27 4 rfl ?_
    refine xl_bk_order (pc := 29) C dX7_fillWithSeason_29 ?_
    refine r_istoreV (pc := 30) C dX7_fillWithSeason_30 (lv' := fun x8 => [(0, .ref (q 36)), (1, .int c1), (2, .int c2), (3, .int c3), (4, .int x2), (5, .int x8)]) (by decide) [1, 2, 3, 4, 5, 0] (fun _ => rfl) (fun x8 => ?_)
    refine r_aload_n (pc := 32) C dX7_fillWithSeason_32 0 rfl ?_
    refine xg_l1_book (pc := 33) C kw_2_25 dX7_fillWithSeason_33 ?_
    refine xgN_bk_day (pc := 36) C knf_20 dX7_fillWithSeason_36 ?_
    refine r_iload (pc := 39) C dX7_fillWithSeason_39 5 rfl ?_
    refine xl_bk_day (pc := 41) C dX7_fillWithSeason_41 ?_
    refine r_sipush (pc := 42) C dX7_fillWithSeason_42 (v := 365) (by decide) ?_
    refine r_idiv (pc := 45) C dX7_fillWithSeason_45 (by decide) ?_
    refine r_iload_n (pc := 46) C dX7_fillWithSeason_46 2 rfl ?_
    refine r_icmp_ne 71 (pc := 47) C dX7_fillWithSeason_47 (by decide) ?_ ?_
    · refine r_iinc (pc := 71) C dX7_fillWithSeason_71 (v := 1) (lv' := fun x9 => [(0, .ref (q 36)), (1, .int c1), (2, .int c2), (3, .int c3), (4, .int x9), (5, .int x8)]) 4 rfl (by decide) (by decide) [1, 2, 3, 4, 0, 5] (fun _ => rfl) (fun x9 => ?_)
      refine r_goto 8 (pc := 74) C dX7_fillWithSeason_74 (by decide) ?_
      refine r_sub (lv' := [(0, .ref (q 36)), (1, .int c1), (2, .int c2), (3, .int c3), (4, .int x9)]) [0, 1, 2, 3, 4] rfl ?_
      exact ih5 S3 x9
    · refine r_aload_n (pc := 50) C dX7_fillWithSeason_50 0 rfl ?_
      refine xg_l1_book (pc := 51) C kw_2_25 dX7_fillWithSeason_51 ?_
      refine r_iload (pc := 54) C dX7_fillWithSeason_54 5 rfl ?_
      refine r_iload_n (pc := 56) C dX7_fillWithSeason_56 1 rfl ?_
      refine r_iconst (pc := 57) C dX7_fillWithSeason_57 (v := 0) (by decide) ?_
      refine r_iload_n (pc := 58) C dX7_fillWithSeason_58 3 rfl ?_
      refine r_cVpz (As := [.int x8, .int c1, .int 0, .int c3]) (st := []) (pc := 59) C (fun _ h => c_X1_isListed h) kY_X1_isListed kw_4_121 kw_4_122 kw_4_120 rfl ⟨Nat.le_of_ble_eq_true rfl, Nat.le_of_ble_eq_true rfl⟩ rfl rfl ⟨Nat.zero_le _, Nat.zero_le _⟩ 3 rfl rfl rfl (Nat.le_of_ble_eq_true rfl) dX7_fillWithSeason_59 (fun x10 => ?_)
      refine r_ifb_eq 71 (pc := 62) C dX7_fillWithSeason_62 (by decide) ?_ ?_
      · refine r_iinc (pc := 71) C dX7_fillWithSeason_71 (v := 1) (lv' := fun x11 => [(0, .ref (q 36)), (1, .int c1), (2, .int c2), (3, .int c3), (4, .int x11), (5, .int x8)]) 4 rfl (by decide) (by decide) [1, 2, 3, 4, 0, 5] (fun _ => rfl) (fun x11 => ?_)
        refine r_goto 8 (pc := 74) C dX7_fillWithSeason_74 (by decide) ?_
        refine r_sub (lv' := [(0, .ref (q 36)), (1, .int c1), (2, .int c2), (3, .int c3), (4, .int x11)]) [0, 1, 2, 3, 4] rfl ?_
        exact ih5 S3 x11
      · refine r_aload_n (pc := 65) C dX7_fillWithSeason_65 0 rfl ?_
        refine r_iload (pc := 66) C dX7_fillWithSeason_66 5 rfl ?_
        refine r_cVwv (As := [.int x8]) (st := []) (wf := cx g q E) (pc := 68) C (fun _ h => c_X7_insertByValue_l1 h) kY_X7_insertByValue kw_4_232 kw_0_29 kw_4_230 rfl ⟨Nat.le_of_ble_eq_true rfl, Nat.le_of_ble_eq_true rfl⟩ rfl rfl ⟨Nat.zero_le _, Nat.zero_le _⟩ 35 rfl rfl rfl (Nat.le_of_ble_eq_true rfl) dX7_fillWithSeason_68 (fun S12 => ?_)
        refine r_iinc (pc := 71) C dX7_fillWithSeason_71 (v := 1) (lv' := fun x13 => [(0, .ref (q 36)), (1, .int c1), (2, .int c2), (3, .int c3), (4, .int x13), (5, .int x8)]) 4 rfl (by decide) (by decide) [1, 2, 3, 4, 0, 5] (fun _ => rfl) (fun x13 => ?_)
        refine r_goto 8 (pc := 74) C dX7_fillWithSeason_74 (by decide) ?_
        refine r_sub (lv' := [(0, .ref (q 36)), (1, .int c1), (2, .int c2), (3, .int c3), (4, .int x13)]) [0, 1, 2, 3, 4] rfl ?_
        exact ih5 S12 x13
set_option maxRecDepth 100000 in
theorem v_X7_fillWithSeason_l1_8 {S0 : CS} {c1 : Int32} {c2 : Int32} {c3 : Int32} {k6 : CS → Option (CS)} (hk7 : ∀ (S14 : CS), (gI [21] [37] S0) S14 → jf (gI [21] [37] S0) id (k6 S14)) : ∀ (n : Nat) (S3 : CS) (x2 : Int32), (gI [21] [37] S0) S3 → jf (gI [21] [37] S0) id (L_X7_fillWithSeason_l1_8 c1 c2 c3 k6 n S3 x2) := by
  refine f_lo2 (I := (gI [21] [37] S0)) (fun S3 x2 => S3) (fun rec4 ih5 S3 x2 hS3 => ?_)
  refine f_ite ?_ ?_
  · exact hk7 S3 hS3
  · refine f_chk ?_
    refine f_lt (fun x8 => ?_)
    refine f_chk ?_
    refine f_ite ?_ ?_
    · refine f_bp (fun x10 => ?_)
      refine f_ite ?_ ?_
      · refine f_bpS (fun _ h => gI_tr hS3 (w_X7_insertByValue_l1 h) (by decide) (by decide)) (fun S12 hS12 => ?_)
        refine f_lt (fun x13 => ?_)
        exact ih5 S12 x13 hS12
      · refine f_lt (fun x11 => ?_)
        exact ih5 S3 x11 hS3
    · refine f_lt (fun x9 => ?_)
      exact ih5 S3 x9 hS3
def f_X7_fillWithSeason_l1 (S : CS) (a1 : Int32) (a2 : Int32) (a3 : Int32) : Option (CS) :=
  lt (ci S 21 0) fun S1 =>
  L_X7_fillWithSeason_l1_8 a1 a2 a3 (fun S15 =>
  some S15) FU S1 0
set_option maxRecDepth 100000 in
set_option maxHeartbeats 4000000 in
theorem c_X7_fillWithSeason_l1 {g : KG} {q : Nat → Nat} {E : va_W} {S : CS} {a1 : Int32} {a2 : Int32} {a3 : Int32} {S' : CS} (h : f_X7_fillWithSeason_l1 S a1 a2 a3 = some S') : ∀ l, kM l yX7_fillWithSeason cX7_fillWithSeason 6 none rm_X7_fillWithSeason_l1 g [.ref (q 36), .int a1, .int a2, .int a3] (cx g q E S) (cx g q E S') (none) 0 0 := by
  refine k_open_v (own := "MarkChains$Line") (by decide) rfl (Nat.le_of_ble_eq_true rfl) (fun X C hR => ?_)
  refine (?_ : jJ X g (S' : CS) (cx g q E S) 0 0 0 [(0, .ref (q 36)), (1, .int a1), (2, .int a2), (3, .int a3)] [] (f_X7_fillWithSeason_l1 S a1 a2 a3)) h
  unfold f_X7_fillWithSeason_l1
  refine r_aload_n (pc := 0) C dX7_fillWithSeason_0 0 rfl ?_
  refine r_iconst (pc := 1) C dX7_fillWithSeason_1 (v := 0) (by decide) ?_
  refine xp_l1_size (pc := 2) C kw_2_29 dX7_fillWithSeason_2 (fun S1 => ?_)
  refine r_iconst (pc := 5) C dX7_fillWithSeason_5 (v := 0) (by decide) ?_
  refine r_istore (pc := 6) C dX7_fillWithSeason_6 (lv' := [(0, .ref (q 36)), (1, .int a1), (2, .int a2), (3, .int a3), (4, .int 0)]) (by decide) [1, 2, 3, 4, 0] rfl ?_
  refine l_X7_fillWithSeason_l1_8 C hR a1 a2 a3 _ (fun S15 => ?_) FU S1 0
  exact r_retWV (wf := cx g q E) hR (pc := 77) dX7_fillWithSeason_77
set_option maxRecDepth 100000 in
theorem w_X7_fillWithSeason_l1 {S : CS} {a1 : Int32} {a2 : Int32} {a3 : Int32} {S' : CS} (h : f_X7_fillWithSeason_l1 S a1 a2 a3 = some S') : gI [21] [37] S S' := by
  have hS : gI [21] [37] S S := gI_rf
  refine (?_ : jf (gI [21] [37] S) id (f_X7_fillWithSeason_l1 S a1 a2 a3)) _ h
  unfold f_X7_fillWithSeason_l1
  refine f_ltS (gI_ci hS (by decide)) (fun S1 hS1 => ?_)
  refine v_X7_fillWithSeason_l1_8 (fun S15 hS15 => ?_) FU S1 0 hS1
  exact f_some hS15
abbrev rm_X11_season : Room := { frames := 5, cells := 0, slots := 0, locals := 112 }
theorem kY_X11_season : kY yX11_season cX11_season 4 (some .int) 3 := ⟨kw_1_1, kw_5_161, by decide, by decide, by decide +kernel⟩
def f_X11_season (S : CS) (a1 : Int32) (a2 : Int32) (a3 : Int32) : Option (Int32 × CS) :=
  bp (f_X8_has_pe S a1) (fun x1 =>
  (if x1 = true then
  (if a2 < 0 then
  some ((-2), S)
 else
  (if a2 ≤ 54 then
  bp (f_X7_fillWithSeason_l1 S a1 a2 (S.1 0)) (fun S2 =>
  bp (f_X7_countOrPick_l1 S2 a3) (fun x3 =>
  some (x3, S2)))
 else
  some ((-2), S)))
 else
  some ((-2), S)))
set_option maxRecDepth 100000 in
set_option maxHeartbeats 4000000 in
theorem c_X11_season {g : KG} {q : Nat → Nat} {E : va_W} {S : CS} {a1 : Int32} {a2 : Int32} {a3 : Int32} {r : Int32} {S' : CS} (h : f_X11_season S a1 a2 a3 = some (r, S')) : ∀ l, kM l yX11_season cX11_season 4 (some .int) rm_X11_season g [.ref (q 0), .int a1, .int a2, .int a3] (cx g q E S) (cx g q E S') (some (.int r)) 0 0 := by
  refine k_open_i (own := "MarkChains") (by decide) rfl (Nat.le_of_ble_eq_true rfl) (fun X C hR => ?_)
  refine (?_ : jJ X g ((r, S') : Int32 × CS) (cx g q E S) 0 0 0 [(0, .ref (q 0)), (1, .int a1), (2, .int a2), (3, .int a3)] [] (f_X11_season S a1 a2 a3)) h
  unfold f_X11_season
  refine r_aload_n (pc := 0) C dX11_season_0 0 rfl ?_
  refine xg_x_book (pc := 1) C kw_2_75 dX11_season_1 ?_
  refine xgN_bk_events (pc := 4) C knf_12 dX11_season_4 ?_
  refine r_iload_n (pc := 7) C dX11_season_7 1 rfl ?_
  refine r_cVpz (As := [.int a1]) (st := []) (pc := 8) C (fun _ h => c_X8_has_pe h) kY_X8_has kw_3_46 kw_3_47 kw_4_58 rfl ⟨Nat.le_of_ble_eq_true rfl, Nat.le_of_ble_eq_true rfl⟩ rfl rfl ⟨Nat.zero_le _, Nat.zero_le _⟩ 4 rfl rfl rfl (Nat.le_of_ble_eq_true rfl) dX11_season_8 (fun x1 => ?_)
  refine r_ifb_eq 24 (pc := 11) C dX11_season_11 (by decide) ?_ ?_
  · refine r_bipush (pc := 24) C dX11_season_24 (v := (-2)) (by decide) ?_
    exact r_retWI (wf := cx g q E) hR (pc := 26) dX11_season_26
  · refine r_iload_n (pc := 14) C dX11_season_14 2 rfl ?_
    refine r_if_lt 24 (pc := 15) C dX11_season_15 (by decide) ?_ ?_
    · refine r_bipush (pc := 24) C dX11_season_24 (v := (-2)) (by decide) ?_
      exact r_retWI (wf := cx g q E) hR (pc := 26) dX11_season_26
    · refine r_iload_n (pc := 18) C dX11_season_18 2 rfl ?_
      refine r_bipush (pc := 19) C dX11_season_19 (v := 54) (by decide) ?_
      refine r_icmp_le 27 (pc := 21) C dX11_season_21 (by decide) ?_ ?_
      · refine r_aload_n (pc := 27) C dX11_season_27 0 rfl ?_
        refine xg_x_line (pc := 28) C kw_2_80 dX11_season_28 ?_
        refine r_iload_n (pc := 31) C dX11_season_31 1 rfl ?_
        refine r_iload_n (pc := 32) C dX11_season_32 2 rfl ?_
        refine r_aload_n (pc := 33) C dX11_season_33 0 rfl ?_
        refine xg_x_today (pc := 34) C kw_2_86 dX11_season_34 ?_
        refine r_cVwv (As := [.int a1, .int a2, .int (S.1 0)]) (st := []) (wf := cx g q E) (pc := 37) C (fun _ h => c_X7_fillWithSeason_l1 h) kY_X7_fillWithSeason kw_5_163 kw_5_164 kw_5_162 rfl ⟨Nat.le_of_ble_eq_true rfl, Nat.le_of_ble_eq_true rfl⟩ rfl rfl ⟨Nat.zero_le _, Nat.zero_le _⟩ 35 rfl rfl rfl (Nat.le_of_ble_eq_true rfl) dX11_season_37 (fun S2 => ?_)
        refine r_aload_n (pc := 40) C dX11_season_40 0 rfl ?_
        refine xg_x_line (pc := 41) C kw_2_80 dX11_season_41 ?_
        refine r_iload_n (pc := 44) C dX11_season_44 3 rfl ?_
        refine r_cVpi (As := [.int a3]) (st := []) (pc := 45) C (fun _ h => c_X7_countOrPick_l1 h) kY_X7_countOrPick kw_4_142 kw_4_143 kw_4_141 rfl ⟨Nat.le_of_ble_eq_true rfl, Nat.le_of_ble_eq_true rfl⟩ rfl rfl ⟨Nat.zero_le _, Nat.zero_le _⟩ 35 rfl rfl rfl (Nat.le_of_ble_eq_true rfl) dX11_season_45 (fun x3 => ?_)
        exact r_retWI (wf := cx g q E) hR (pc := 48) dX11_season_48
      · refine r_bipush (pc := 24) C dX11_season_24 (v := (-2)) (by decide) ?_
        exact r_retWI (wf := cx g q E) hR (pc := 26) dX11_season_26
set_option maxRecDepth 100000 in
theorem w_X11_season {S : CS} {a1 : Int32} {a2 : Int32} {a3 : Int32} {r : Int32} {S' : CS} (h : f_X11_season S a1 a2 a3 = some (r, S')) : gI [21] [37] S S' := by
  have hS : gI [21] [37] S S := gI_rf
  refine (?_ : jf (gI [21] [37] S) Prod.snd (f_X11_season S a1 a2 a3)) _ h
  unfold f_X11_season
  refine f_bp (fun x1 => ?_)
  refine f_ite ?_ ?_
  · refine f_ite ?_ ?_
    · exact f_some hS
    · refine f_ite ?_ ?_
      · refine f_bpS (fun _ h => gI_tr hS (w_X7_fillWithSeason_l1 h) (by decide) (by decide)) (fun S2 hS2 => ?_)
        refine f_bp (fun x3 => ?_)
        exact f_some hS2
      · exact f_some hS
  · exact f_some hS
abbrev rm_X7_latestTill_l1 : Room := { frames := 0, cells := 0, slots := 0, locals := 0 }
theorem kY_X7_latestTill : kY yX7_latestTill cX7_latestTill 6 (some .int) 2 := ⟨kw_1_10, kw_5_173, by decide, by decide, by decide +kernel⟩
def L_X7_latestTill_l1_5 (S : CS) (c1 : Int32) (c2 : Int32) (k5 : Int32 → Option (Int32)) : Nat → Int32 → Int32 → Option (Int32) := lo2 fun rec3 x1 x2 =>
  (if (S.1 21) ≤ x2 then
  k5 x1
 else
  chk x2 60 (
  lt (S.2.1 37 x2.toNatClampNeg) fun x7 =>
  chk x7 60 (
  jn0 (lt (x2 + 1) fun x8 =>
  rec3 x7 x8) (fun k9 =>
  (if (S.2.1 16 x7.toNatClampNeg) < c1 then
  k9
 else
  chk x7 60 (
  (if (S.2.1 16 x7.toNatClampNeg) = c1 then
  chk x7 60 (
  (if c2 < (S.2.1 17 x7.toNatClampNeg) then
  lt (x2 + 1) fun x12 =>
  rec3 x1 x12
 else
  k9))
 else
  lt (x2 + 1) fun x11 =>
  rec3 x1 x11)))))))
set_option maxRecDepth 100000 in
set_option maxHeartbeats 4000000 in
theorem l_X7_latestTill_l1_5 {X : KX} {g : KG} {q : Nat → Nat} {E : va_W} {res : Int32} {S : CS} (C : kC X g cX7_latestTill "MarkChains$Line" rm_X7_latestTill_l1 6) (hR : ∀ (pc : Nat) (lv : List (Nat × Value)), decode cX7_latestTill pc = .ok (.ireturn, 1) → jW X g (cx g q E S) 0 0 pc lv [.int res]) (c1 : Int32) (c2 : Int32) (k5 : Int32 → Option (Int32)) (hk6 : ∀ (x13 : Int32), jJ X g res (cx g q E S) 0 0 74 [(3, .int x13)] [] (k5 x13)) : ∀ (n : Nat) (x1 : Int32) (x2 : Int32), jJ X g res (cx g q E S) 0 0 5 [(0, .ref (q 36)), (1, .int c1), (2, .int c2), (3, .int x1), (4, .int x2)] [] (L_X7_latestTill_l1_5 S c1 c2 k5 n x1 x2) := by
  refine r_lo2 (fun x1 x2 => cx g q E S) (fun x1 x2 => [(0, .ref (q 36)), (1, .int c1), (2, .int c2), (3, .int x1), (4, .int x2)]) (fun rec3 ih4 x1 x2 => ?_)
  refine r_iload (pc := 5) C dX7_latestTill_5 4 rfl ?_
  refine r_aload_n (pc := 7) C dX7_latestTill_7 0 rfl ?_
  refine xg_l1_size (pc := 8) C kw_2_29 dX7_latestTill_8 ?_
  refine r_icmp_ge 74 (pc := 11) C dX7_latestTill_11 (by decide) ?_ ?_
  · refine r_sub (lv' := [(3, .int x1)]) [3] rfl ?_
    exact hk6 x1
  · refine r_aload_n (pc := 14) C dX7_latestTill_14 0 rfl ?_
    refine xg_l1_numbers (pc := 15) C kw_2_26 dX7_latestTill_15 ?_
    refine r_iload (pc := 18) C dX7_latestTill_18 4 rfl ?_
    refine xl_l1_numbers (pc := 20) C dX7_latestTill_20 ?_
    refine r_istoreV (pc := 21) C dX7_latestTill_21 (lv' := fun x7 => [(0, .ref (q 36)), (1, .int c1), (2, .int c2), (3, .int x1), (4, .int x2), (5, .int x7)]) (by decide) [1, 2, 3, 4, 5, 0] (fun _ => rfl) (fun x7 => ?_)
    refine r_aload_n (pc := 23) C dX7_latestTill_23 0 rfl ?_
    refine xg_l1_book (pc := 24) C kw_2_25 dX7_latestTill_24 ?_
    refine xgN_bk_day (pc := 27) C knf_20 dX7_latestTill_27 ?_
    refine r_iload (pc := 30) C dX7_latestTill_30 5 rfl ?_
    refine xl_bk_day (pc := 32) C dX7_latestTill_32 ?_
    refine r_iload_n (pc := 33) C dX7_latestTill_33 1 rfl ?_
    refine r_jn0 65 (cx g q E S) ([(0, .ref (q 36)), (1, .int c1), (2, .int c2), (4, .int x2), (5, .int x7)]) ([]) ?_ (fun k9 hk10 => ?_)
    · refine r_iload (pc := 65) C dX7_latestTill_65 4 rfl ?_
      refine r_istore_n (pc := 67) C dX7_latestTill_67 (lv' := [(0, .ref (q 36)), (1, .int c1), (2, .int c2), (3, .int x7), (4, .int x2), (5, .int x7)]) (by decide) [1, 2, 3, 0, 4, 5] rfl ?_
      refine r_iinc (pc := 68) C dX7_latestTill_68 (v := 1) (lv' := fun x8 => [(0, .ref (q 36)), (1, .int c1), (2, .int c2), (3, .int x7), (4, .int x8), (5, .int x7)]) 4 rfl (by decide) (by decide) [1, 2, 3, 4, 0, 5] (fun _ => rfl) (fun x8 => ?_)
      refine r_goto 5 (pc := 71) C dX7_latestTill_71 (by decide) ?_
      refine r_sub (lv' := [(0, .ref (q 36)), (1, .int c1), (2, .int c2), (3, .int x7), (4, .int x8)]) [0, 1, 2, 3, 4] rfl ?_
      exact ih4 x7 x8
    · refine r_icmp_lt 65 (pc := 34) C dX7_latestTill_34 (by decide) ?_ ?_
      · refine r_sub (lv' := [(0, .ref (q 36)), (1, .int c1), (2, .int c2), (4, .int x2), (5, .int x7)]) [0, 1, 2, 4, 5] rfl ?_
        exact hk10
      · refine r_aload_n (pc := 37) C dX7_latestTill_37 0 rfl ?_
        refine xg_l1_book (pc := 38) C kw_2_25 dX7_latestTill_38 ?_
        refine xgN_bk_day (pc := 41) C knf_20 dX7_latestTill_41 ?_
        refine r_iload (pc := 44) C dX7_latestTill_44 5 rfl ?_
        refine xl_bk_day (pc := 46) C dX7_latestTill_46 ?_
        refine r_iload_n (pc := 47) C dX7_latestTill_47 1 rfl ?_
        refine r_icmp_ne 68 (pc := 48) C dX7_latestTill_48 (by decide) ?_ ?_
        · refine r_iinc (pc := 68) C dX7_latestTill_68 (v := 1) (lv' := fun x11 => [(0, .ref (q 36)), (1, .int c1), (2, .int c2), (3, .int x1), (4, .int x11), (5, .int x7)]) 4 rfl (by decide) (by decide) [1, 2, 3, 4, 0, 5] (fun _ => rfl) (fun x11 => ?_)
          refine r_goto 5 (pc := 71) C dX7_latestTill_71 (by decide) ?_
          refine r_sub (lv' := [(0, .ref (q 36)), (1, .int c1), (2, .int c2), (3, .int x1), (4, .int x11)]) [0, 1, 2, 3, 4] rfl ?_
          exact ih4 x1 x11
        · refine r_aload_n (pc := 51) C dX7_latestTill_51 0 rfl ?_
          refine xg_l1_book (pc := 52) C kw_2_25 dX7_latestTill_52 ?_
          refine xgN_bk_minute (pc := 55) C knf_22 dX7_latestTill_55 ?_
          refine r_iload (pc := 58) C dX7_latestTill_58 5 rfl ?_
          refine xl_bk_minute (pc := 60) C dX7_latestTill_60 ?_
          refine r_iload_n (pc := 61) C dX7_latestTill_61 2 rfl ?_
          refine r_icmp_gt 68 (pc := 62) C dX7_latestTill_62 (by decide) ?_ ?_
          · refine r_iinc (pc := 68) C dX7_latestTill_68 (v := 1) (lv' := fun x12 => [(0, .ref (q 36)), (1, .int c1), (2, .int c2), (3, .int x1), (4, .int x12), (5, .int x7)]) 4 rfl (by decide) (by decide) [1, 2, 3, 4, 0, 5] (fun _ => rfl) (fun x12 => ?_)
            refine r_goto 5 (pc := 71) C dX7_latestTill_71 (by decide) ?_
            refine r_sub (lv' := [(0, .ref (q 36)), (1, .int c1), (2, .int c2), (3, .int x1), (4, .int x12)]) [0, 1, 2, 3, 4] rfl ?_
            exact ih4 x1 x12
          · refine r_sub (lv' := [(0, .ref (q 36)), (1, .int c1), (2, .int c2), (4, .int x2), (5, .int x7)]) [0, 1, 2, 4, 5] rfl ?_
            exact hk10
def f_X7_latestTill_l1 (S : CS) (a1 : Int32) (a2 : Int32) : Option (Int32) :=
  L_X7_latestTill_l1_5 S a1 a2 (fun x14 =>
  some x14) FU (-1) 0
set_option maxRecDepth 100000 in
set_option maxHeartbeats 4000000 in
theorem c_X7_latestTill_l1 {g : KG} {q : Nat → Nat} {E : va_W} {S : CS} {a1 : Int32} {a2 : Int32} {r : Int32} (h : f_X7_latestTill_l1 S a1 a2 = some r) : ∀ l, kM l yX7_latestTill cX7_latestTill 6 (some .int) rm_X7_latestTill_l1 g [.ref (q 36), .int a1, .int a2] (cx g q E S) (cx g q E S) (some (.int r)) 0 0 := by
  refine k_open_i (own := "MarkChains$Line") (by decide) rfl (Nat.le_of_ble_eq_true rfl) (fun X C hR => ?_)
  refine (?_ : jJ X g (r : Int32) (cx g q E S) 0 0 0 [(0, .ref (q 36)), (1, .int a1), (2, .int a2)] [] (f_X7_latestTill_l1 S a1 a2)) h
  unfold f_X7_latestTill_l1
  refine r_iconst (pc := 0) C dX7_latestTill_0 (v := (-1)) (by decide) ?_
  refine r_istore_n (pc := 1) C dX7_latestTill_1 (lv' := [(0, .ref (q 36)), (1, .int a1), (2, .int a2), (3, .int (-1))]) (by decide) [1, 2, 3, 0] rfl ?_
  refine r_iconst (pc := 2) C dX7_latestTill_2 (v := 0) (by decide) ?_
  refine r_istore (pc := 3) C dX7_latestTill_3 (lv' := [(0, .ref (q 36)), (1, .int a1), (2, .int a2), (3, .int (-1)), (4, .int 0)]) (by decide) [1, 2, 3, 4, 0] rfl ?_
  refine l_X7_latestTill_l1_5 C hR a1 a2 _ (fun x14 => ?_) FU (-1) 0
  refine r_iload_n (pc := 74) C dX7_latestTill_74 0 rfl ?_
  exact r_retPI hR (pc := 75) dX7_latestTill_75
abbrev rm_X11_at : Room := { frames := 4, cells := 0, slots := 0, locals := 94 }
theorem kY_X11_at : kY yX11_at cX11_at 5 (some .int) 4 := ⟨kw_1_1, kw_5_169, by decide, by decide, by decide +kernel⟩
def f_X11_at (S : CS) (a1 : Int32) (a2 : Int32) (a3 : Int32) (a4 : Int32) : Option (Int32 × CS) :=
  bp (f_X11_isAsked S a1 a2 a3) (fun x1 =>
  (if x1 = true then
  (if a4 < 0 then
  some ((-2), S)
 else
  (if a4 ≤ 1439 then
  bp (f_X7_fillWithChain_l1 S a1 a2 (S.1 0) (-1)) (fun S2 =>
  bp (f_X7_latestTill_l1 S2 a3 a4) (fun x3 =>
  some (x3, S2)))
 else
  some ((-2), S)))
 else
  some ((-2), S)))
set_option maxRecDepth 100000 in
set_option maxHeartbeats 4000000 in
theorem c_X11_at {g : KG} {q : Nat → Nat} {E : va_W} {S : CS} {a1 : Int32} {a2 : Int32} {a3 : Int32} {a4 : Int32} {r : Int32} {S' : CS} (h : f_X11_at S a1 a2 a3 a4 = some (r, S')) : ∀ l, kM l yX11_at cX11_at 5 (some .int) rm_X11_at g [.ref (q 0), .int a1, .int a2, .int a3, .int a4] (cx g q E S) (cx g q E S') (some (.int r)) 0 0 := by
  refine k_open_i (own := "MarkChains") (by decide) rfl (Nat.le_of_ble_eq_true rfl) (fun X C hR => ?_)
  refine (?_ : jJ X g ((r, S') : Int32 × CS) (cx g q E S) 0 0 0 [(0, .ref (q 0)), (1, .int a1), (2, .int a2), (3, .int a3), (4, .int a4)] [] (f_X11_at S a1 a2 a3 a4)) h
  unfold f_X11_at
  refine r_aload_n (pc := 0) C dX11_at_0 0 rfl ?_
  refine r_iload_n (pc := 1) C dX11_at_1 1 rfl ?_
  refine r_iload_n (pc := 2) C dX11_at_2 2 rfl ?_
  refine r_iload_n (pc := 3) C dX11_at_3 3 rfl ?_
  refine r_cVpz (As := [.int a1, .int a2, .int a3]) (st := []) (pc := 4) C (fun _ h => c_X11_isAsked h) kY_X11_isAsked kw_4_111 kw_0_25 kw_4_109 rfl ⟨Nat.le_of_ble_eq_true rfl, Nat.le_of_ble_eq_true rfl⟩ rfl rfl ⟨Nat.zero_le _, Nat.zero_le _⟩ 0 rfl rfl rfl (Nat.le_of_ble_eq_true rfl) dX11_at_4 (fun x1 => ?_)
  refine r_ifb_eq 23 (pc := 7) C dX11_at_7 (by decide) ?_ ?_
  · refine r_bipush (pc := 23) C dX11_at_23 (v := (-2)) (by decide) ?_
    exact r_retWI (wf := cx g q E) hR (pc := 25) dX11_at_25
  · refine r_iload (pc := 10) C dX11_at_10 4 rfl ?_
    refine r_if_lt 23 (pc := 12) C dX11_at_12 (by decide) ?_ ?_
    · refine r_bipush (pc := 23) C dX11_at_23 (v := (-2)) (by decide) ?_
      exact r_retWI (wf := cx g q E) hR (pc := 25) dX11_at_25
    · refine r_iload (pc := 15) C dX11_at_15 4 rfl ?_
      refine r_sipush (pc := 17) C dX11_at_17 (v := 1439) (by decide) ?_
      refine r_icmp_le 26 (pc := 20) C dX11_at_20 (by decide) ?_ ?_
      · refine r_aload_n (pc := 26) C dX11_at_26 0 rfl ?_
        refine xg_x_line (pc := 27) C kw_2_80 dX11_at_27 ?_
        refine r_iload_n (pc := 30) C dX11_at_30 1 rfl ?_
        refine r_iload_n (pc := 31) C dX11_at_31 2 rfl ?_
        refine r_aload_n (pc := 32) C dX11_at_32 0 rfl ?_
        refine xg_x_today (pc := 33) C kw_2_86 dX11_at_33 ?_
        refine r_iconst (pc := 36) C dX11_at_36 (v := (-1)) (by decide) ?_
        refine r_cVwv (As := [.int a1, .int a2, .int (S.1 0), .int (-1)]) (st := []) (wf := cx g q E) (pc := 37) C (fun _ h => c_X7_fillWithChain_l1 h) kY_X7_fillWithChain kw_4_117 kw_4_118 kw_4_116 rfl ⟨Nat.le_of_ble_eq_true rfl, Nat.le_of_ble_eq_true rfl⟩ rfl rfl ⟨Nat.zero_le _, Nat.zero_le _⟩ 35 rfl rfl rfl (Nat.le_of_ble_eq_true rfl) dX11_at_37 (fun S2 => ?_)
        refine r_aload_n (pc := 40) C dX11_at_40 0 rfl ?_
        refine xg_x_line (pc := 41) C kw_2_80 dX11_at_41 ?_
        refine r_iload_n (pc := 44) C dX11_at_44 3 rfl ?_
        refine r_iload (pc := 45) C dX11_at_45 4 rfl ?_
        refine r_cVpi (As := [.int a3, .int a4]) (st := []) (pc := 47) C (fun _ h => c_X7_latestTill_l1 h) kY_X7_latestTill kw_5_171 kw_5_172 kw_5_170 rfl ⟨Nat.le_of_ble_eq_true rfl, Nat.le_of_ble_eq_true rfl⟩ rfl rfl ⟨Nat.zero_le _, Nat.zero_le _⟩ 35 rfl rfl rfl (Nat.le_of_ble_eq_true rfl) dX11_at_47 (fun x3 => ?_)
        exact r_retWI (wf := cx g q E) hR (pc := 50) dX11_at_50
      · refine r_bipush (pc := 23) C dX11_at_23 (v := (-2)) (by decide) ?_
        exact r_retWI (wf := cx g q E) hR (pc := 25) dX11_at_25
set_option maxRecDepth 100000 in
theorem w_X11_at {S : CS} {a1 : Int32} {a2 : Int32} {a3 : Int32} {a4 : Int32} {r : Int32} {S' : CS} (h : f_X11_at S a1 a2 a3 a4 = some (r, S')) : gI [21] [37] S S' := by
  have hS : gI [21] [37] S S := gI_rf
  refine (?_ : jf (gI [21] [37] S) Prod.snd (f_X11_at S a1 a2 a3 a4)) _ h
  unfold f_X11_at
  refine f_bp (fun x1 => ?_)
  refine f_ite ?_ ?_
  · refine f_ite ?_ ?_
    · exact f_some hS
    · refine f_ite ?_ ?_
      · refine f_bpS (fun _ h => gI_tr hS (w_X7_fillWithChain_l1 h) (by decide) (by decide)) (fun S2 hS2 => ?_)
        refine f_bp (fun x3 => ?_)
        exact f_some hS2
      · exact f_some hS
  · exact f_some hS
abbrev rm_X11_missing : Room := { frames := 4, cells := 0, slots := 0, locals := 94 }
theorem kY_X11_missing : kY yX11_missing cX11_missing 7 (some .int) 1 := ⟨kw_1_1, kw_5_177, by decide, by decide, by decide +kernel⟩
def L_X11_missing_47 (c1 : Int32) (c2 : Int32) (c4 : Int32) (k9 : CS → Option (Int32 × CS)) : Nat → CS → Int32 → Option (Int32 × CS) := lo2 fun rec7 S6 x5 =>
  (if c4 ≤ x5 then
  k9 S6
 else
  chk x5 7 (
  lt (sT_0.getD x5.toNatClampNeg 0) fun x11 =>
  (if (c2 &&& x11) = 0 then
  bw (f_X11_lackOf S6 c1 (c2 ||| x11)) (fun x13 S14 =>
  (if x13 = (-1) then
  some (x11, S14)
 else
  lt (x5 + 1) fun x15 =>
  rec7 S14 x15))
 else
  lt (x5 + 1) fun x12 =>
  rec7 S6 x12)))
set_option maxRecDepth 100000 in
set_option maxHeartbeats 4000000 in
theorem l_X11_missing_47 {X : KX} {g : KG} {q : Nat → Nat} {E : va_W} {res : Int32 × CS} (C : kC X g cX11_missing "MarkChains" rm_X11_missing 7) (hR : ∀ (pc : Nat) (lv : List (Nat × Value)), decode cX11_missing pc = .ok (.ireturn, 1) → jW X g (cx g q E res.2) 0 0 pc lv [.int res.1]) (c1 : Int32) (c2 : Int32) (c4 : Int32) (k9 : CS → Option (Int32 × CS)) (hk10 : ∀ (S16 : CS), jJ X g res (cx g q E S16) 0 0 89 [] [] (k9 S16)) : ∀ (n : Nat) (S6 : CS) (x5 : Int32), jJ X g res (cx g q E S6) 0 0 47 [(0, .ref (q 0)), (1, .int c1), (2, .int c2), (3, .ref (g.2.2.2 0)), (4, .int c4), (5, .int x5)] [] (L_X11_missing_47 c1 c2 c4 k9 n S6 x5) := by
  refine r_lo2 (fun S6 x5 => cx g q E S6) (fun S6 x5 => [(0, .ref (q 0)), (1, .int c1), (2, .int c2), (3, .ref (g.2.2.2 0)), (4, .int c4), (5, .int x5)]) (fun rec7 ih8 S6 x5 => ?_)
  refine r_iload (pc := 47) C dX11_missing_47 5 rfl ?_
  refine r_iload (pc := 49) C dX11_missing_49 4 rfl ?_
  refine r_icmp_ge 89 (pc := 51) C dX11_missing_51 (by decide) ?_ ?_
  · refine r_sub (lv' := []) [] rfl ?_
    exact hk10 S6
  · refine r_aload_n (pc := 54) C dX11_missing_54 3 rfl ?_
    refine r_iload (pc := 55) C dX11_missing_55 5 rfl ?_
    refine r_sl_0 (pc := 57) C dX11_missing_57 ?_
    refine r_istoreV (pc := 58) C dX11_missing_58 (lv' := fun x11 => [(0, .ref (q 0)), (1, .int c1), (2, .int c2), (3, .ref (g.2.2.2 0)), (4, .int c4), (5, .int x5), (6, .int x11)]) (by decide) [1, 2, 3, 4, 5, 6, 0] (fun _ => rfl) (fun x11 => ?_)
    refine r_iload_n (pc := 60) C dX11_missing_60 2 rfl ?_
    refine r_iload (pc := 61) C dX11_missing_61 6 rfl ?_
    refine r_iand (pc := 63) C dX11_missing_63 ?_
    refine r_if_ne 83 (pc := 64) C dX11_missing_64 (by decide) ?_ ?_
    · refine r_iinc (pc := 83) C dX11_missing_83 (v := 1) (lv' := fun x12 => [(0, .ref (q 0)), (1, .int c1), (2, .int c2), (3, .ref (g.2.2.2 0)), (4, .int c4), (5, .int x12), (6, .int x11)]) 5 rfl (by decide) (by decide) [1, 2, 3, 4, 5, 0, 6] (fun _ => rfl) (fun x12 => ?_)
      refine r_goto 47 (pc := 86) C dX11_missing_86 (by decide) ?_
      refine r_sub (lv' := [(0, .ref (q 0)), (1, .int c1), (2, .int c2), (3, .ref (g.2.2.2 0)), (4, .int c4), (5, .int x12)]) [0, 1, 2, 3, 4, 5] rfl ?_
      exact ih8 S6 x12
    · refine r_aload_n (pc := 67) C dX11_missing_67 0 rfl ?_
      refine r_iload_n (pc := 68) C dX11_missing_68 1 rfl ?_
      refine r_iload_n (pc := 69) C dX11_missing_69 2 rfl ?_
      refine r_iload (pc := 70) C dX11_missing_70 6 rfl ?_
      refine r_ior (pc := 72) C dX11_missing_72 ?_
      refine r_cVwi (As := [.int c1, .int (c2 ||| x11)]) (st := []) (wf := cx g q E) (pc := 73) C (fun _ _ h => c_X11_lackOf h) kY_X11_lackOf kw_4_10 kw_0_20 kw_4_8 rfl ⟨Nat.le_of_ble_eq_true rfl, Nat.le_of_ble_eq_true rfl⟩ rfl rfl ⟨Nat.zero_le _, Nat.zero_le _⟩ 0 rfl rfl rfl (Nat.le_of_ble_eq_true rfl) dX11_missing_73 (fun x13 S14 => ?_)
      refine r_iconst (pc := 76) C dX11_missing_76 (v := (-1)) (by decide) ?_
      refine r_icmp_ne 83 (pc := 77) C dX11_missing_77 (by decide) ?_ ?_
      · refine r_iinc (pc := 83) C dX11_missing_83 (v := 1) (lv' := fun x15 => [(0, .ref (q 0)), (1, .int c1), (2, .int c2), (3, .ref (g.2.2.2 0)), (4, .int c4), (5, .int x15), (6, .int x11)]) 5 rfl (by decide) (by decide) [1, 2, 3, 4, 5, 0, 6] (fun _ => rfl) (fun x15 => ?_)
        refine r_goto 47 (pc := 86) C dX11_missing_86 (by decide) ?_
        refine r_sub (lv' := [(0, .ref (q 0)), (1, .int c1), (2, .int c2), (3, .ref (g.2.2.2 0)), (4, .int c4), (5, .int x15)]) [0, 1, 2, 3, 4, 5] rfl ?_
        exact ih8 S14 x15
      · refine r_iload (pc := 80) C dX11_missing_80 6 rfl ?_
        exact r_retWI (wf := cx g q E) hR (pc := 82) dX11_missing_82
set_option maxRecDepth 100000 in
theorem v_X11_missing_47 {S0 : CS} {c1 : Int32} {c2 : Int32} {c4 : Int32} {k9 : CS → Option (Int32 × CS)} (hk10 : ∀ (S16 : CS), (gI [24] [48] S0) S16 → jf (gI [24] [48] S0) Prod.snd (k9 S16)) : ∀ (n : Nat) (S6 : CS) (x5 : Int32), (gI [24] [48] S0) S6 → jf (gI [24] [48] S0) Prod.snd (L_X11_missing_47 c1 c2 c4 k9 n S6 x5) := by
  refine f_lo2 (I := (gI [24] [48] S0)) (fun S6 x5 => S6) (fun rec7 ih8 S6 x5 hS6 => ?_)
  refine f_ite ?_ ?_
  · exact hk10 S6 hS6
  · refine f_chk ?_
    refine f_lt (fun x11 => ?_)
    refine f_ite ?_ ?_
    · refine f_bwS (fun _ _ h => gI_tr hS6 (w_X11_lackOf h) (by decide) (by decide)) (fun x13 S14 hS14 => ?_)
      refine f_ite ?_ ?_
      · exact f_some hS14
      · refine f_lt (fun x15 => ?_)
        exact ih8 S14 x15 hS14
    · refine f_lt (fun x12 => ?_)
      exact ih8 S6 x12 hS6
def f_X11_missing (S : CS) (a1 : Int32) : Option (Int32 × CS) :=
  bp (f_X1_hasMark S a1) (fun x1 =>
  (if x1 = true then
  chk a1 60 (
  lt (S.2.1 21 a1.toNatClampNeg) fun x2 =>
  bw (f_X11_lackOf S a1 x2) (fun x3 S4 =>
  (if x3 = (-1) then
  some (0, S4)
 else
  L_X11_missing_47 a1 x2 7 (fun S17 =>
  some ((-1), S17)) FU S4 0)))
 else
  some ((-2), S)))
set_option maxRecDepth 100000 in
set_option maxHeartbeats 4000000 in
theorem c_X11_missing {g : KG} {q : Nat → Nat} {E : va_W} {S : CS} {a1 : Int32} {r : Int32} {S' : CS} (h : f_X11_missing S a1 = some (r, S')) : ∀ l, kM l yX11_missing cX11_missing 7 (some .int) rm_X11_missing g [.ref (q 0), .int a1] (cx g q E S) (cx g q E S') (some (.int r)) 0 0 := by
  refine k_open_i (own := "MarkChains") (by decide) rfl (Nat.le_of_ble_eq_true rfl) (fun X C hR => ?_)
  refine (?_ : jJ X g ((r, S') : Int32 × CS) (cx g q E S) 0 0 0 [(0, .ref (q 0)), (1, .int a1)] [] (f_X11_missing S a1)) h
  unfold f_X11_missing
  refine r_aload_n (pc := 0) C dX11_missing_0 0 rfl ?_
  refine xg_x_book (pc := 1) C kw_2_75 dX11_missing_1 ?_
  refine r_iload_n (pc := 4) C dX11_missing_4 1 rfl ?_
  refine r_cVpz (As := [.int a1]) (st := []) (pc := 5) C (fun _ h => c_X1_hasMark h) kY_X1_hasMark kw_4_44 kw_4_45 kw_4_43 rfl ⟨Nat.le_of_ble_eq_true rfl, Nat.le_of_ble_eq_true rfl⟩ rfl rfl ⟨Nat.zero_le _, Nat.zero_le _⟩ 3 rfl rfl rfl (Nat.le_of_ble_eq_true rfl) dX11_missing_5 (fun x1 => ?_)
  refine r_ifb_ne 14 (pc := 8) C dX11_missing_8 (by decide) ?_ ?_
  · refine r_aload_n (pc := 14) C dX11_missing_14 0 rfl ?_
    refine xg_x_book (pc := 15) C kw_2_75 dX11_missing_15 ?_
    refine xgN_bk_papers (pc := 18) C knf_25 dX11_missing_18 ?_
    refine r_iload_n (pc := 21) C dX11_missing_21 1 rfl ?_
    refine xl_bk_papers (pc := 22) C dX11_missing_22 ?_
    refine r_istoreV_n (pc := 23) C dX11_missing_23 (lv' := fun x2 => [(0, .ref (q 0)), (1, .int a1), (2, .int x2)]) (by decide) [1, 2, 0] (fun _ => rfl) (fun x2 => ?_)
    refine r_aload_n (pc := 24) C dX11_missing_24 0 rfl ?_
    refine r_iload_n (pc := 25) C dX11_missing_25 1 rfl ?_
    refine r_iload_n (pc := 26) C dX11_missing_26 2 rfl ?_
    refine r_cVwi (As := [.int a1, .int x2]) (st := []) (wf := cx g q E) (pc := 27) C (fun _ _ h => c_X11_lackOf h) kY_X11_lackOf kw_4_10 kw_0_20 kw_4_8 rfl ⟨Nat.le_of_ble_eq_true rfl, Nat.le_of_ble_eq_true rfl⟩ rfl rfl ⟨Nat.zero_le _, Nat.zero_le _⟩ 0 rfl rfl rfl (Nat.le_of_ble_eq_true rfl) dX11_missing_27 (fun x3 S4 => ?_)
    refine r_iconst (pc := 30) C dX11_missing_30 (v := (-1)) (by decide) ?_
    refine r_icmp_ne 36 (pc := 31) C dX11_missing_31 (by decide) ?_ ?_
    · refine r_gs_0 (pc := 36) C kw_5_178 dX11_missing_36 ?_
      refine r_astore_n (pc := 39) C dX11_missing_39 (lv' := [(0, .ref (q 0)), (1, .int a1), (2, .int x2), (3, .ref (g.2.2.2 0))]) (by decide) [1, 2, 3, 0] rfl ?_
      refine r_aload_n (pc := 40) C dX11_missing_40 3 rfl ?_
      refine r_sn_0 (pc := 41) C dX11_missing_41 ?_
      refine r_istore (pc := 42) C dX11_missing_42 (lv' := [(0, .ref (q 0)), (1, .int a1), (2, .int x2), (3, .ref (g.2.2.2 0)), (4, .int 7)]) (by decide) [1, 2, 3, 4, 0] rfl ?_
      refine r_iconst (pc := 44) C dX11_missing_44 (v := 0) (by decide) ?_
      refine r_istore (pc := 45) C dX11_missing_45 (lv' := [(0, .ref (q 0)), (1, .int a1), (2, .int x2), (3, .ref (g.2.2.2 0)), (4, .int 7), (5, .int 0)]) (by decide) [1, 2, 3, 4, 5, 0] rfl ?_
      refine l_X11_missing_47 C hR a1 x2 7 _ (fun S17 => ?_) FU S4 0
      refine r_iconst (pc := 89) C dX11_missing_89 (v := (-1)) (by decide) ?_
      exact r_retWI (wf := cx g q E) hR (pc := 90) dX11_missing_90
    · refine r_iconst (pc := 34) C dX11_missing_34 (v := 0) (by decide) ?_
      exact r_retWI (wf := cx g q E) hR (pc := 35) dX11_missing_35
  · refine r_bipush (pc := 11) C dX11_missing_11 (v := (-2)) (by decide) ?_
    exact r_retWI (wf := cx g q E) hR (pc := 13) dX11_missing_13
set_option maxRecDepth 100000 in
theorem w_X11_missing {S : CS} {a1 : Int32} {r : Int32} {S' : CS} (h : f_X11_missing S a1 = some (r, S')) : gI [24] [48] S S' := by
  have hS : gI [24] [48] S S := gI_rf
  refine (?_ : jf (gI [24] [48] S) Prod.snd (f_X11_missing S a1)) _ h
  unfold f_X11_missing
  refine f_bp (fun x1 => ?_)
  refine f_ite ?_ ?_
  · refine f_chk ?_
    refine f_lt (fun x2 => ?_)
    refine f_bwS (fun _ _ h => gI_tr hS (w_X11_lackOf h) (by decide) (by decide)) (fun x3 S4 hS4 => ?_)
    refine f_ite ?_ ?_
    · exact f_some hS4
    · refine v_X11_missing_47 (fun S17 hS17 => ?_) FU S4 0 hS4
      exact f_some hS17
  · exact f_some hS
abbrev rm_X11_isPlacedSo : Room := { frames := 5, cells := 0, slots := 0, locals := 113 }
theorem kY_X11_isPlacedSo : kY yX11_isPlacedSo cX11_isPlacedSo 5 (some .boolean) 3 := ⟨kw_1_1, kw_5_187, by decide, by decide, by decide +kernel⟩
def f_X11_isPlacedSo (S : CS) (a1 : Int32) (a2 : Int32) (a3 : Int32) : Option (Bool × CS) :=
  jn1 (fun (S1 : CS) =>
  bp (f_X7_placeOf_l1 S1 a1) (fun x2 =>
  (if a3 = 1 then
  (if x2 = (-1) then
  some (false, S1)
 else
  (if x2 = ((S1.1 21) - 1) then
  some (true, S1)
 else
  some (false, S1)))
 else
  (if a3 = 3 then
  (if x2 = 0 then
  some (true, S1)
 else
  some (false, S1))
 else
  (if x2 = (-1) then
  some (false, S1)
 else
  some (true, S1)))))) (fun k3 =>
  (if 2 ≤ a3 then
  chk a1 60 (
  bp (f_X7_fillWithList_l1 S (S.2.1 13 a1.toNatClampNeg) a2 (S.1 0)) (fun S5 =>
  k3 S5))
 else
  chk a1 60 (
  bp (f_X7_fillWithChain_l1 S (S.2.1 13 a1.toNatClampNeg) a2 (S.1 0) (-1)) (fun S6 =>
  k3 S6))))
set_option maxRecDepth 100000 in
set_option maxHeartbeats 4000000 in
theorem c_X11_isPlacedSo {g : KG} {q : Nat → Nat} {E : va_W} {S : CS} {a1 : Int32} {a2 : Int32} {a3 : Int32} {r : Bool} {S' : CS} (h : f_X11_isPlacedSo S a1 a2 a3 = some (r, S')) : ∀ l, kM l yX11_isPlacedSo cX11_isPlacedSo 5 (some .boolean) rm_X11_isPlacedSo g [.ref (q 0), .int a1, .int a2, .int a3] (cx g q E S) (cx g q E S') (some (.int (b2 r))) 0 0 := by
  refine k_open_z (own := "MarkChains") (by decide) rfl (Nat.le_of_ble_eq_true rfl) (fun X C hR => ?_)
  refine (?_ : jJ X g ((r, S') : Bool × CS) (cx g q E S) 0 0 0 [(0, .ref (q 0)), (1, .int a1), (2, .int a2), (3, .int a3)] [] (f_X11_isPlacedSo S a1 a2 a3)) h
  unfold f_X11_isPlacedSo
  refine r_iload_n (pc := 0) C dX11_isPlacedSo_0 3 rfl ?_
  refine r_iconst (pc := 1) C dX11_isPlacedSo_1 (v := 2) (by decide) ?_
  refine r_jn1 51 (fun (S1 : CS) => cx g q E S1) (fun (S1 : CS) => [(0, .ref (q 0)), (1, .int a1), (3, .int a3)]) (fun (S1 : CS) => []) (fun S1 => ?_) (fun k3 hk4 => ?_)
  · refine r_aload_n (pc := 51) C dX11_isPlacedSo_51 0 rfl ?_
    refine xg_x_line (pc := 52) C kw_2_80 dX11_isPlacedSo_52 ?_
    refine r_iload_n (pc := 55) C dX11_isPlacedSo_55 1 rfl ?_
    refine r_cVpi (As := [.int a1]) (st := []) (pc := 56) C (fun _ h => c_X7_placeOf_l1 h) kY_X7_placeOf kw_4_212 kw_4_213 kw_4_238 rfl ⟨Nat.le_of_ble_eq_true rfl, Nat.le_of_ble_eq_true rfl⟩ rfl rfl ⟨Nat.zero_le _, Nat.zero_le _⟩ 35 rfl rfl rfl (Nat.le_of_ble_eq_true rfl) dX11_isPlacedSo_56 (fun x2 => ?_)
    refine r_istore (pc := 59) C dX11_isPlacedSo_59 (lv' := [(0, .ref (q 0)), (1, .int a1), (3, .int a3), (4, .int x2)]) (by decide) [1, 2, 3, 0] rfl ?_
    refine r_iload_n (pc := 61) C dX11_isPlacedSo_61 2 rfl ?_
    refine r_iconst (pc := 62) C dX11_isPlacedSo_62 (v := 1) (by decide) ?_
    refine r_icmp_ne 92 (pc := 63) C dX11_isPlacedSo_63 (by decide) ?_ ?_
    · refine r_iload_n (pc := 92) C dX11_isPlacedSo_92 2 rfl ?_
      refine r_iconst (pc := 93) C dX11_isPlacedSo_93 (v := 3) (by decide) ?_
      refine r_icmp_ne 110 (pc := 94) C dX11_isPlacedSo_94 (by decide) ?_ ?_
      · refine r_iload (pc := 110) C dX11_isPlacedSo_110 3 rfl ?_
        refine r_iconst (pc := 112) C dX11_isPlacedSo_112 (v := (-1)) (by decide) ?_
        refine r_icmp_eq 120 (pc := 113) C dX11_isPlacedSo_113 (by decide) ?_ ?_
        · refine r_iconst (pc := 120) C dX11_isPlacedSo_120 (v := 0) (by decide) ?_
          exact r_retWZ hR rfl (pc := 121) dX11_isPlacedSo_121
        · refine r_iconst (pc := 116) C dX11_isPlacedSo_116 (v := 1) (by decide) ?_
          refine r_goto 121 (pc := 117) C dX11_isPlacedSo_117 (by decide) ?_
          exact r_retWZ hR rfl (pc := 121) dX11_isPlacedSo_121
      · refine r_iload (pc := 97) C dX11_isPlacedSo_97 3 rfl ?_
        refine r_if_ne 106 (pc := 99) C dX11_isPlacedSo_99 (by decide) ?_ ?_
        · refine r_iconst (pc := 106) C dX11_isPlacedSo_106 (v := 0) (by decide) ?_
          refine r_goto 121 (pc := 107) C dX11_isPlacedSo_107 (by decide) ?_
          exact r_retWZ hR rfl (pc := 121) dX11_isPlacedSo_121
        · refine r_iconst (pc := 102) C dX11_isPlacedSo_102 (v := 1) (by decide) ?_
          refine r_goto 121 (pc := 103) C dX11_isPlacedSo_103 (by decide) ?_
          exact r_retWZ hR rfl (pc := 121) dX11_isPlacedSo_121
    · refine r_iload (pc := 66) C dX11_isPlacedSo_66 3 rfl ?_
      refine r_iconst (pc := 68) C dX11_isPlacedSo_68 (v := (-1)) (by decide) ?_
      refine r_icmp_eq 90 (pc := 69) C dX11_isPlacedSo_69 (by decide) ?_ ?_
      · refine r_iconst (pc := 90) C dX11_isPlacedSo_90 (v := 0) (by decide) ?_
        exact r_retWZ hR rfl (pc := 91) dX11_isPlacedSo_91
      · refine r_iload (pc := 72) C dX11_isPlacedSo_72 3 rfl ?_
        refine r_aload_n (pc := 74) C dX11_isPlacedSo_74 0 rfl ?_
        refine xg_x_line (pc := 75) C kw_2_80 dX11_isPlacedSo_75 ?_
        refine xgN_l1_size (pc := 78) C knf_37 dX11_isPlacedSo_78 ?_
        refine r_iconst (pc := 81) C dX11_isPlacedSo_81 (v := 1) (by decide) ?_
        refine r_isub (pc := 82) C dX11_isPlacedSo_82 ?_
        refine r_icmp_ne 90 (pc := 83) C dX11_isPlacedSo_83 (by decide) ?_ ?_
        · refine r_iconst (pc := 90) C dX11_isPlacedSo_90 (v := 0) (by decide) ?_
          exact r_retWZ hR rfl (pc := 91) dX11_isPlacedSo_91
        · refine r_iconst (pc := 86) C dX11_isPlacedSo_86 (v := 1) (by decide) ?_
          refine r_goto 91 (pc := 87) C dX11_isPlacedSo_87 (by decide) ?_
          exact r_retWZ hR rfl (pc := 91) dX11_isPlacedSo_91
  · refine r_icmp_ge 30 (pc := 2) C dX11_isPlacedSo_2 (by decide) ?_ ?_
    · refine r_aload_n (pc := 30) C dX11_isPlacedSo_30 0 rfl ?_
      refine xg_x_line (pc := 31) C kw_2_80 dX11_isPlacedSo_31 ?_
      refine r_aload_n (pc := 34) C dX11_isPlacedSo_34 0 rfl ?_
      refine xg_x_book (pc := 35) C kw_2_75 dX11_isPlacedSo_35 ?_
      refine xgN_bk_event (pc := 38) C knf_17 dX11_isPlacedSo_38 ?_
      refine r_iload_n (pc := 41) C dX11_isPlacedSo_41 1 rfl ?_
      refine xl_bk_event (pc := 42) C dX11_isPlacedSo_42 ?_
      refine r_iload_n (pc := 43) C dX11_isPlacedSo_43 2 rfl ?_
      refine r_aload_n (pc := 44) C dX11_isPlacedSo_44 0 rfl ?_
      refine xg_x_today (pc := 45) C kw_2_86 dX11_isPlacedSo_45 ?_
      refine r_cVwv (As := [.int (S.2.1 13 a1.toNatClampNeg), .int a2, .int (S.1 0)]) (st := []) (wf := cx g q E) (pc := 48) C (fun _ h => c_X7_fillWithList_l1 h) kY_X7_fillWithList kw_4_224 kw_4_225 kw_4_223 rfl ⟨Nat.le_of_ble_eq_true rfl, Nat.le_of_ble_eq_true rfl⟩ rfl rfl ⟨Nat.zero_le _, Nat.zero_le _⟩ 35 rfl rfl rfl (Nat.le_of_ble_eq_true rfl) dX11_isPlacedSo_48 (fun S5 => ?_)
      refine r_sub (lv' := [(0, .ref (q 0)), (1, .int a1), (3, .int a3)]) [0, 1, 3] rfl ?_
      exact hk4 S5
    · refine r_aload_n (pc := 5) C dX11_isPlacedSo_5 0 rfl ?_
      refine xg_x_line (pc := 6) C kw_2_80 dX11_isPlacedSo_6 ?_
      refine r_aload_n (pc := 9) C dX11_isPlacedSo_9 0 rfl ?_
      refine xg_x_book (pc := 10) C kw_2_75 dX11_isPlacedSo_10 ?_
      refine xgN_bk_event (pc := 13) C knf_17 dX11_isPlacedSo_13 ?_
      refine r_iload_n (pc := 16) C dX11_isPlacedSo_16 1 rfl ?_
      refine xl_bk_event (pc := 17) C dX11_isPlacedSo_17 ?_
      refine r_iload_n (pc := 18) C dX11_isPlacedSo_18 2 rfl ?_
      refine r_aload_n (pc := 19) C dX11_isPlacedSo_19 0 rfl ?_
      refine xg_x_today (pc := 20) C kw_2_86 dX11_isPlacedSo_20 ?_
      refine r_iconst (pc := 23) C dX11_isPlacedSo_23 (v := (-1)) (by decide) ?_
      refine r_cVwv (As := [.int (S.2.1 13 a1.toNatClampNeg), .int a2, .int (S.1 0), .int (-1)]) (st := []) (wf := cx g q E) (pc := 24) C (fun _ h => c_X7_fillWithChain_l1 h) kY_X7_fillWithChain kw_4_117 kw_4_118 kw_4_116 rfl ⟨Nat.le_of_ble_eq_true rfl, Nat.le_of_ble_eq_true rfl⟩ rfl rfl ⟨Nat.zero_le _, Nat.zero_le _⟩ 35 rfl rfl rfl (Nat.le_of_ble_eq_true rfl) dX11_isPlacedSo_24 (fun S6 => ?_)
      refine r_goto 51 (pc := 27) C dX11_isPlacedSo_27 (by decide) ?_
      refine r_sub (lv' := [(0, .ref (q 0)), (1, .int a1), (3, .int a3)]) [0, 1, 3] rfl ?_
      exact hk4 S6
set_option maxRecDepth 100000 in
theorem w_X11_isPlacedSo {S : CS} {a1 : Int32} {a2 : Int32} {a3 : Int32} {r : Bool} {S' : CS} (h : f_X11_isPlacedSo S a1 a2 a3 = some (r, S')) : gI [21] [37, 38] S S' := by
  have hS : gI [21] [37, 38] S S := gI_rf
  refine (?_ : jf (gI [21] [37, 38] S) Prod.snd (f_X11_isPlacedSo S a1 a2 a3)) _ h
  unfold f_X11_isPlacedSo
  refine f_jn1 (fun S1 hS1 => ?_) (fun k3 hk4 => ?_)
  · refine f_bp (fun x2 => ?_)
    refine f_ite ?_ ?_
    · refine f_ite ?_ ?_
      · exact f_some hS1
      · refine f_ite ?_ ?_
        · exact f_some hS1
        · exact f_some hS1
    · refine f_ite ?_ ?_
      · refine f_ite ?_ ?_
        · exact f_some hS1
        · exact f_some hS1
      · refine f_ite ?_ ?_
        · exact f_some hS1
        · exact f_some hS1
  · refine f_ite ?_ ?_
    · refine f_chk ?_
      refine f_bpS (fun _ h => gI_tr hS (w_X7_fillWithList_l1 h) (by decide) (by decide)) (fun S5 hS5 => ?_)
      exact hk4 S5 hS5
    · refine f_chk ?_
      refine f_bpS (fun _ h => gI_tr hS (w_X7_fillWithChain_l1 h) (by decide) (by decide)) (fun S6 hS6 => ?_)
      exact hk4 S6 hS6
abbrev rm_X11_stands : Room := { frames := 6, cells := 0, slots := 0, locals := 137 }
theorem kY_X11_stands : kY yX11_stands cX11_stands 5 (some .int) 2 := ⟨kw_1_1, kw_5_183, by decide, by decide, by decide +kernel⟩
def L_X11_stands_28 (c1 : Int32) (c2 : Int32) (k7 : CS → Int32 → Option (Int32 × CS)) : Nat → CS → Int32 → Int32 → Option (Int32 × CS) := lo3 fun rec5 S4 x2 x3 =>
  (if 21 < x3 then
  k7 S4 x2
 else
  bp (f_X1_isOfScope S4 c1 x3) (fun x9 =>
  (if x9 = true then
  bw (f_X11_isPlacedSo S4 c1 x3 c2) (fun x11 S12 =>
  (if x11 = true then
  lt (x2 + 1) fun x14 =>
  lt (x3 + 1) fun x15 =>
  rec5 S12 x14 x15
 else
  lt (x3 + 1) fun x13 =>
  rec5 S12 x2 x13))
 else
  lt (x3 + 1) fun x10 =>
  rec5 S4 x2 x10)))
set_option maxRecDepth 100000 in
set_option maxHeartbeats 4000000 in
theorem l_X11_stands_28 {X : KX} {g : KG} {q : Nat → Nat} {E : va_W} {res : Int32 × CS} (C : kC X g cX11_stands "MarkChains" rm_X11_stands 5) (hR : ∀ (pc : Nat) (lv : List (Nat × Value)), decode cX11_stands pc = .ok (.ireturn, 1) → jW X g (cx g q E res.2) 0 0 pc lv [.int res.1]) (c1 : Int32) (c2 : Int32) (k7 : CS → Int32 → Option (Int32 × CS)) (hk8 : ∀ (S16 : CS) (x17 : Int32), jJ X g res (cx g q E S16) 0 0 68 [(3, .int x17)] [] (k7 S16 x17)) : ∀ (n : Nat) (S4 : CS) (x2 : Int32) (x3 : Int32), jJ X g res (cx g q E S4) 0 0 28 [(0, .ref (q 0)), (1, .int c1), (2, .int c2), (3, .int x2), (4, .int x3)] [] (L_X11_stands_28 c1 c2 k7 n S4 x2 x3) := by
  refine r_lo3 (fun S4 x2 x3 => cx g q E S4) (fun S4 x2 x3 => [(0, .ref (q 0)), (1, .int c1), (2, .int c2), (3, .int x2), (4, .int x3)]) (fun rec5 ih6 S4 x2 x3 => ?_)
  refine r_iload (pc := 28) C dX11_stands_28 4 rfl ?_
  refine r_bipush (pc := 30) C dX11_stands_30 (v := 21) (by decide) ?_
  refine r_icmp_gt 68 (pc := 32) C dX11_stands_32 (by decide) ?_ ?_
  · refine r_sub (lv' := [(3, .int x2)]) [3] rfl ?_
    exact hk8 S4 x2
  · refine r_aload_n (pc := 35) C dX11_stands_35 0 rfl ?_
    refine xg_x_book (pc := 36) C kw_2_75 dX11_stands_36 ?_
    refine r_iload_n (pc := 39) C dX11_stands_39 1 rfl ?_
    refine r_iload (pc := 40) C dX11_stands_40 4 rfl ?_
    refine r_cVpz (As := [.int c1, .int x3]) (st := []) (pc := 42) C (fun _ h => c_X1_isOfScope h) kY_X1_isOfScope kw_4_96 kw_4_97 kw_4_95 rfl ⟨Nat.le_of_ble_eq_true rfl, Nat.le_of_ble_eq_true rfl⟩ rfl rfl ⟨Nat.zero_le _, Nat.zero_le _⟩ 3 rfl rfl rfl (Nat.le_of_ble_eq_true rfl) dX11_stands_42 (fun x9 => ?_)
    refine r_ifb_eq 62 (pc := 45) C dX11_stands_45 (by decide) ?_ ?_
    · refine r_iinc (pc := 62) C dX11_stands_62 (v := 1) (lv' := fun x10 => [(0, .ref (q 0)), (1, .int c1), (2, .int c2), (3, .int x2), (4, .int x10)]) 4 rfl (by decide) (by decide) [1, 2, 3, 4, 0] (fun _ => rfl) (fun x10 => ?_)
      refine r_goto 28 (pc := 65) C dX11_stands_65 (by decide) ?_
      exact ih6 S4 x2 x10
    · refine r_aload_n (pc := 48) C dX11_stands_48 0 rfl ?_
      refine r_iload_n (pc := 49) C dX11_stands_49 1 rfl ?_
      refine r_iload (pc := 50) C dX11_stands_50 4 rfl ?_
      refine r_iload_n (pc := 52) C dX11_stands_52 2 rfl ?_
      refine r_cVwz (As := [.int c1, .int x3, .int c2]) (st := []) (wf := cx g q E) (pc := 53) C (fun _ _ h => c_X11_isPlacedSo h) kY_X11_isPlacedSo kw_5_186 kw_0_34 kw_5_184 rfl ⟨Nat.le_of_ble_eq_true rfl, Nat.le_of_ble_eq_true rfl⟩ rfl rfl ⟨Nat.zero_le _, Nat.zero_le _⟩ 0 rfl rfl rfl (Nat.le_of_ble_eq_true rfl) dX11_stands_53 (fun x11 S12 => ?_)
      refine r_ifb_eq 62 (pc := 56) C dX11_stands_56 (by decide) ?_ ?_
      · refine r_iinc (pc := 62) C dX11_stands_62 (v := 1) (lv' := fun x13 => [(0, .ref (q 0)), (1, .int c1), (2, .int c2), (3, .int x2), (4, .int x13)]) 4 rfl (by decide) (by decide) [1, 2, 3, 4, 0] (fun _ => rfl) (fun x13 => ?_)
        refine r_goto 28 (pc := 65) C dX11_stands_65 (by decide) ?_
        exact ih6 S12 x2 x13
      · refine r_iinc (pc := 59) C dX11_stands_59 (v := 1) (lv' := fun x14 => [(0, .ref (q 0)), (1, .int c1), (2, .int c2), (3, .int x14), (4, .int x3)]) 3 rfl (by decide) (by decide) [1, 2, 3, 0, 4] (fun _ => rfl) (fun x14 => ?_)
        refine r_iinc (pc := 62) C dX11_stands_62 (v := 1) (lv' := fun x15 => [(0, .ref (q 0)), (1, .int c1), (2, .int c2), (3, .int x14), (4, .int x15)]) 4 rfl (by decide) (by decide) [1, 2, 3, 4, 0] (fun _ => rfl) (fun x15 => ?_)
        refine r_goto 28 (pc := 65) C dX11_stands_65 (by decide) ?_
        exact ih6 S12 x14 x15
set_option maxRecDepth 100000 in
theorem v_X11_stands_28 {S0 : CS} {c1 : Int32} {c2 : Int32} {k7 : CS → Int32 → Option (Int32 × CS)} (hk8 : ∀ (S16 : CS) (x17 : Int32), (gI [21] [37, 38] S0) S16 → jf (gI [21] [37, 38] S0) Prod.snd (k7 S16 x17)) : ∀ (n : Nat) (S4 : CS) (x2 : Int32) (x3 : Int32), (gI [21] [37, 38] S0) S4 → jf (gI [21] [37, 38] S0) Prod.snd (L_X11_stands_28 c1 c2 k7 n S4 x2 x3) := by
  refine f_lo3 (I := (gI [21] [37, 38] S0)) (fun S4 x2 x3 => S4) (fun rec5 ih6 S4 x2 x3 hS4 => ?_)
  refine f_ite ?_ ?_
  · exact hk8 S4 x2 hS4
  · refine f_bp (fun x9 => ?_)
    refine f_ite ?_ ?_
    · refine f_bwS (fun _ _ h => gI_tr hS4 (w_X11_isPlacedSo h) (by decide) (by decide)) (fun x11 S12 hS12 => ?_)
      refine f_ite ?_ ?_
      · refine f_lt (fun x14 => ?_)
        refine f_lt (fun x15 => ?_)
        exact ih6 S12 x14 x15 hS12
      · refine f_lt (fun x13 => ?_)
        exact ih6 S12 x2 x13 hS12
    · refine f_lt (fun x10 => ?_)
      exact ih6 S4 x2 x10 hS4
def f_X11_stands (S : CS) (a1 : Int32) (a2 : Int32) : Option (Int32 × CS) :=
  bp (f_X1_hasMark S a1) (fun x1 =>
  (if x1 = true then
  (if a2 < 0 then
  some ((-2), S)
 else
  (if a2 ≤ 3 then
  L_X11_stands_28 a1 a2 (fun S18 x19 =>
  some (x19, S18)) FU S 0 0
 else
  some ((-2), S)))
 else
  some ((-2), S)))
set_option maxRecDepth 100000 in
set_option maxHeartbeats 4000000 in
theorem c_X11_stands {g : KG} {q : Nat → Nat} {E : va_W} {S : CS} {a1 : Int32} {a2 : Int32} {r : Int32} {S' : CS} (h : f_X11_stands S a1 a2 = some (r, S')) : ∀ l, kM l yX11_stands cX11_stands 5 (some .int) rm_X11_stands g [.ref (q 0), .int a1, .int a2] (cx g q E S) (cx g q E S') (some (.int r)) 0 0 := by
  refine k_open_i (own := "MarkChains") (by decide) rfl (Nat.le_of_ble_eq_true rfl) (fun X C hR => ?_)
  refine (?_ : jJ X g ((r, S') : Int32 × CS) (cx g q E S) 0 0 0 [(0, .ref (q 0)), (1, .int a1), (2, .int a2)] [] (f_X11_stands S a1 a2)) h
  unfold f_X11_stands
  refine r_aload_n (pc := 0) C dX11_stands_0 0 rfl ?_
  refine xg_x_book (pc := 1) C kw_2_75 dX11_stands_1 ?_
  refine r_iload_n (pc := 4) C dX11_stands_4 1 rfl ?_
  refine r_cVpz (As := [.int a1]) (st := []) (pc := 5) C (fun _ h => c_X1_hasMark h) kY_X1_hasMark kw_4_44 kw_4_45 kw_4_43 rfl ⟨Nat.le_of_ble_eq_true rfl, Nat.le_of_ble_eq_true rfl⟩ rfl rfl ⟨Nat.zero_le _, Nat.zero_le _⟩ 3 rfl rfl rfl (Nat.le_of_ble_eq_true rfl) dX11_stands_5 (fun x1 => ?_)
  refine r_ifb_eq 20 (pc := 8) C dX11_stands_8 (by decide) ?_ ?_
  · refine r_bipush (pc := 20) C dX11_stands_20 (v := (-2)) (by decide) ?_
    exact r_retWI (wf := cx g q E) hR (pc := 22) dX11_stands_22
  · refine r_iload_n (pc := 11) C dX11_stands_11 2 rfl ?_
    refine r_if_lt 20 (pc := 12) C dX11_stands_12 (by decide) ?_ ?_
    · refine r_bipush (pc := 20) C dX11_stands_20 (v := (-2)) (by decide) ?_
      exact r_retWI (wf := cx g q E) hR (pc := 22) dX11_stands_22
    · refine r_iload_n (pc := 15) C dX11_stands_15 2 rfl ?_
      refine r_iconst (pc := 16) C dX11_stands_16 (v := 3) (by decide) ?_
      refine r_icmp_le 23 (pc := 17) C dX11_stands_17 (by decide) ?_ ?_
      · refine r_iconst (pc := 23) C dX11_stands_23 (v := 0) (by decide) ?_
        refine r_istore_n (pc := 24) C dX11_stands_24 (lv' := [(0, .ref (q 0)), (1, .int a1), (2, .int a2), (3, .int 0)]) (by decide) [1, 2, 3, 0] rfl ?_
        refine r_iconst (pc := 25) C dX11_stands_25 (v := 0) (by decide) ?_
        refine r_istore (pc := 26) C dX11_stands_26 (lv' := [(0, .ref (q 0)), (1, .int a1), (2, .int a2), (3, .int 0), (4, .int 0)]) (by decide) [1, 2, 3, 4, 0] rfl ?_
        refine l_X11_stands_28 C hR a1 a2 _ (fun S18 x19 => ?_) FU S 0 0
        refine r_iload_n (pc := 68) C dX11_stands_68 0 rfl ?_
        exact r_retWI (wf := cx g q E) hR (pc := 69) dX11_stands_69
      · refine r_bipush (pc := 20) C dX11_stands_20 (v := (-2)) (by decide) ?_
        exact r_retWI (wf := cx g q E) hR (pc := 22) dX11_stands_22
set_option maxRecDepth 100000 in
theorem w_X11_stands {S : CS} {a1 : Int32} {a2 : Int32} {r : Int32} {S' : CS} (h : f_X11_stands S a1 a2 = some (r, S')) : gI [21] [37, 38] S S' := by
  have hS : gI [21] [37, 38] S S := gI_rf
  refine (?_ : jf (gI [21] [37, 38] S) Prod.snd (f_X11_stands S a1 a2)) _ h
  unfold f_X11_stands
  refine f_bp (fun x1 => ?_)
  refine f_ite ?_ ?_
  · refine f_ite ?_ ?_
    · exact f_some hS
    · refine f_ite ?_ ?_
      · refine v_X11_stands_28 (fun S18 x19 hS18 => ?_) FU S 0 0 hS
        exact f_some hS18
      · exact f_some hS
  · exact f_some hS
abbrev rm_X11_holdersInAnyScope : Room := { frames := 4, cells := 0, slots := 0, locals := 94 }
theorem kY_X11_holdersInAnyScope : kY yX11_holdersInAnyScope cX11_holdersInAnyScope 4 (some .int) 1 := ⟨kw_1_1, kw_5_195, by decide, by decide, by decide +kernel⟩
def L_X11_holdersInAnyScope_4 (c1 : Int32) (k6 : CS → Int32 → Option (Int32 × CS)) : Nat → CS → Int32 → Int32 → Option (Int32 × CS) := lo3 fun rec4 S3 x1 x2 =>
  (if 21 < x2 then
  k6 S3 x1
 else
  bp (f_X7_fillWithChain_l1 S3 c1 x2 (S3.1 0) (-1)) (fun S8 =>
  bp (f_X7_holderBits_l1 S8) (fun x9 =>
  lt (x1 ||| x9) fun x10 =>
  lt (x2 + 1) fun x11 =>
  rec4 S8 x10 x11)))
set_option maxRecDepth 100000 in
set_option maxHeartbeats 4000000 in
theorem l_X11_holdersInAnyScope_4 {X : KX} {g : KG} {q : Nat → Nat} {E : va_W} {res : Int32 × CS} (C : kC X g cX11_holdersInAnyScope "MarkChains" rm_X11_holdersInAnyScope 4) (hR : ∀ (pc : Nat) (lv : List (Nat × Value)), decode cX11_holdersInAnyScope pc = .ok (.ireturn, 1) → jW X g (cx g q E res.2) 0 0 pc lv [.int res.1]) (c1 : Int32) (k6 : CS → Int32 → Option (Int32 × CS)) (hk7 : ∀ (S12 : CS) (x13 : Int32), jJ X g res (cx g q E S12) 0 0 40 [(2, .int x13)] [] (k6 S12 x13)) : ∀ (n : Nat) (S3 : CS) (x1 : Int32) (x2 : Int32), jJ X g res (cx g q E S3) 0 0 4 [(0, .ref (q 0)), (1, .int c1), (2, .int x1), (3, .int x2)] [] (L_X11_holdersInAnyScope_4 c1 k6 n S3 x1 x2) := by
  refine r_lo3 (fun S3 x1 x2 => cx g q E S3) (fun S3 x1 x2 => [(0, .ref (q 0)), (1, .int c1), (2, .int x1), (3, .int x2)]) (fun rec4 ih5 S3 x1 x2 => ?_)
  refine r_iload_n (pc := 4) C dX11_holdersInAnyScope_4 3 rfl ?_
  refine r_bipush (pc := 5) C dX11_holdersInAnyScope_5 (v := 21) (by decide) ?_
  refine r_icmp_gt 40 (pc := 7) C dX11_holdersInAnyScope_7 (by decide) ?_ ?_
  · refine r_sub (lv' := [(2, .int x1)]) [2] rfl ?_
    exact hk7 S3 x1
  · refine r_aload_n (pc := 10) C dX11_holdersInAnyScope_10 0 rfl ?_
    refine xg_x_line (pc := 11) C kw_2_80 dX11_holdersInAnyScope_11 ?_
    refine r_iload_n (pc := 14) C dX11_holdersInAnyScope_14 1 rfl ?_
    refine r_iload_n (pc := 15) C dX11_holdersInAnyScope_15 3 rfl ?_
    refine r_aload_n (pc := 16) C dX11_holdersInAnyScope_16 0 rfl ?_
    refine xg_x_today (pc := 17) C kw_2_86 dX11_holdersInAnyScope_17 ?_
    refine r_iconst (pc := 20) C dX11_holdersInAnyScope_20 (v := (-1)) (by decide) ?_
    refine r_cVwv (As := [.int c1, .int x2, .int (S3.1 0), .int (-1)]) (st := []) (wf := cx g q E) (pc := 21) C (fun _ h => c_X7_fillWithChain_l1 h) kY_X7_fillWithChain kw_4_117 kw_4_118 kw_4_116 rfl ⟨Nat.le_of_ble_eq_true rfl, Nat.le_of_ble_eq_true rfl⟩ rfl rfl ⟨Nat.zero_le _, Nat.zero_le _⟩ 35 rfl rfl rfl (Nat.le_of_ble_eq_true rfl) dX11_holdersInAnyScope_21 (fun S8 => ?_)
    refine r_iload_n (pc := 24) C dX11_holdersInAnyScope_24 2 rfl ?_
    refine r_aload_n (pc := 25) C dX11_holdersInAnyScope_25 0 rfl ?_
    refine xg_x_line (pc := 26) C kw_2_80 dX11_holdersInAnyScope_26 ?_
    refine r_cVpi (As := []) (st := [.int x1]) (pc := 29) C (fun _ h => c_X7_holderBits_l1 h) kY_X7_holderBits kw_4_158 kw_4_159 kw_4_157 rfl ⟨Nat.le_of_ble_eq_true rfl, Nat.le_of_ble_eq_true rfl⟩ rfl rfl ⟨Nat.zero_le _, Nat.zero_le _⟩ 35 rfl rfl rfl (Nat.le_of_ble_eq_true rfl) dX11_holdersInAnyScope_29 (fun x9 => ?_)
    refine r_ior (pc := 32) C dX11_holdersInAnyScope_32 ?_
    refine r_istoreV_n (pc := 33) C dX11_holdersInAnyScope_33 (lv' := fun x10 => [(0, .ref (q 0)), (1, .int c1), (2, .int x10), (3, .int x2)]) (by decide) [1, 2, 0, 3] (fun _ => rfl) (fun x10 => ?_)
    refine r_iinc (pc := 34) C dX11_holdersInAnyScope_34 (v := 1) (lv' := fun x11 => [(0, .ref (q 0)), (1, .int c1), (2, .int x10), (3, .int x11)]) 3 rfl (by decide) (by decide) [1, 2, 3, 0] (fun _ => rfl) (fun x11 => ?_)
    refine r_goto 4 (pc := 37) C dX11_holdersInAnyScope_37 (by decide) ?_
    exact ih5 S8 x10 x11
set_option maxRecDepth 100000 in
theorem v_X11_holdersInAnyScope_4 {S0 : CS} {c1 : Int32} {k6 : CS → Int32 → Option (Int32 × CS)} (hk7 : ∀ (S12 : CS) (x13 : Int32), (gI [21] [37] S0) S12 → jf (gI [21] [37] S0) Prod.snd (k6 S12 x13)) : ∀ (n : Nat) (S3 : CS) (x1 : Int32) (x2 : Int32), (gI [21] [37] S0) S3 → jf (gI [21] [37] S0) Prod.snd (L_X11_holdersInAnyScope_4 c1 k6 n S3 x1 x2) := by
  refine f_lo3 (I := (gI [21] [37] S0)) (fun S3 x1 x2 => S3) (fun rec4 ih5 S3 x1 x2 hS3 => ?_)
  refine f_ite ?_ ?_
  · exact hk7 S3 x1 hS3
  · refine f_bpS (fun _ h => gI_tr hS3 (w_X7_fillWithChain_l1 h) (by decide) (by decide)) (fun S8 hS8 => ?_)
    refine f_bp (fun x9 => ?_)
    refine f_lt (fun x10 => ?_)
    refine f_lt (fun x11 => ?_)
    exact ih5 S8 x10 x11 hS8
def f_X11_holdersInAnyScope (S : CS) (a1 : Int32) : Option (Int32 × CS) :=
  L_X11_holdersInAnyScope_4 a1 (fun S14 x15 =>
  some (x15, S14)) FU S 0 0
set_option maxRecDepth 100000 in
set_option maxHeartbeats 4000000 in
theorem c_X11_holdersInAnyScope {g : KG} {q : Nat → Nat} {E : va_W} {S : CS} {a1 : Int32} {r : Int32} {S' : CS} (h : f_X11_holdersInAnyScope S a1 = some (r, S')) : ∀ l, kM l yX11_holdersInAnyScope cX11_holdersInAnyScope 4 (some .int) rm_X11_holdersInAnyScope g [.ref (q 0), .int a1] (cx g q E S) (cx g q E S') (some (.int r)) 0 0 := by
  refine k_open_i (own := "MarkChains") (by decide) rfl (Nat.le_of_ble_eq_true rfl) (fun X C hR => ?_)
  refine (?_ : jJ X g ((r, S') : Int32 × CS) (cx g q E S) 0 0 0 [(0, .ref (q 0)), (1, .int a1)] [] (f_X11_holdersInAnyScope S a1)) h
  unfold f_X11_holdersInAnyScope
  refine r_iconst (pc := 0) C dX11_holdersInAnyScope_0 (v := 0) (by decide) ?_
  refine r_istore_n (pc := 1) C dX11_holdersInAnyScope_1 (lv' := [(0, .ref (q 0)), (1, .int a1), (2, .int 0)]) (by decide) [1, 2, 0] rfl ?_
  refine r_iconst (pc := 2) C dX11_holdersInAnyScope_2 (v := 0) (by decide) ?_
  refine r_istore_n (pc := 3) C dX11_holdersInAnyScope_3 (lv' := [(0, .ref (q 0)), (1, .int a1), (2, .int 0), (3, .int 0)]) (by decide) [1, 2, 3, 0] rfl ?_
  refine l_X11_holdersInAnyScope_4 C hR a1 _ (fun S14 x15 => ?_) FU S 0 0
  refine r_iload_n (pc := 40) C dX11_holdersInAnyScope_40 0 rfl ?_
  exact r_retWI (wf := cx g q E) hR (pc := 41) dX11_holdersInAnyScope_41
set_option maxRecDepth 100000 in
theorem w_X11_holdersInAnyScope {S : CS} {a1 : Int32} {r : Int32} {S' : CS} (h : f_X11_holdersInAnyScope S a1 = some (r, S')) : gI [21] [37] S S' := by
  have hS : gI [21] [37] S S := gI_rf
  refine (?_ : jf (gI [21] [37] S) Prod.snd (f_X11_holdersInAnyScope S a1)) _ h
  unfold f_X11_holdersInAnyScope
  refine v_X11_holdersInAnyScope_4 (fun S14 x15 hS14 => ?_) FU S 0 0 hS
  exact f_some hS14
abbrev rm_X11_holding : Room := { frames := 5, cells := 0, slots := 0, locals := 117 }
theorem kY_X11_holding : kY yX11_holding cX11_holding 4 (some .int) 1 := ⟨kw_1_1, kw_5_191, by decide, by decide, by decide +kernel⟩
def L_X11_holding_26 (c1 : Int32) (k6 : CS → Int32 → Option (Int32 × CS)) : Nat → CS → Int32 → Int32 → Option (Int32 × CS) := lo3 fun rec4 S3 x1 x2 =>
  (if (S3.1 7) ≤ x2 then
  k6 S3 x1
 else
  jn0 (bw (f_X11_holdersInAnyScope S3 x2) (fun x8 S9 =>
  lt (x1 ||| x8) fun x10 =>
  lt (x2 + 1) fun x11 =>
  rec4 S9 x10 x11)) (fun k12 =>
  (if c1 = (-1) then
  k12
 else
  (if c1 = x2 then
  k12
 else
  lt (x2 + 1) fun x14 =>
  rec4 S3 x1 x14))))
set_option maxRecDepth 100000 in
set_option maxHeartbeats 4000000 in
theorem l_X11_holding_26 {X : KX} {g : KG} {q : Nat → Nat} {E : va_W} {res : Int32 × CS} (C : kC X g cX11_holding "MarkChains" rm_X11_holding 4) (hR : ∀ (pc : Nat) (lv : List (Nat × Value)), decode cX11_holding pc = .ok (.ireturn, 1) → jW X g (cx g q E res.2) 0 0 pc lv [.int res.1]) (c1 : Int32) (k6 : CS → Int32 → Option (Int32 × CS)) (hk7 : ∀ (S15 : CS) (x16 : Int32), jJ X g res (cx g q E S15) 0 0 64 [(2, .int x16)] [] (k6 S15 x16)) : ∀ (n : Nat) (S3 : CS) (x1 : Int32) (x2 : Int32), jJ X g res (cx g q E S3) 0 0 26 [(0, .ref (q 0)), (1, .int c1), (2, .int x1), (3, .int x2)] [] (L_X11_holding_26 c1 k6 n S3 x1 x2) := by
  refine r_lo3 (fun S3 x1 x2 => cx g q E S3) (fun S3 x1 x2 => [(0, .ref (q 0)), (1, .int c1), (2, .int x1), (3, .int x2)]) (fun rec4 ih5 S3 x1 x2 => ?_)
  refine r_iload_n (pc := 26) C dX11_holding_26 3 rfl ?_
  refine r_aload_n (pc := 27) C dX11_holding_27 0 rfl ?_
  refine xg_x_book (pc := 28) C kw_2_75 dX11_holding_28 ?_
  refine xgN_bk_events (pc := 31) C knf_12 dX11_holding_31 ?_
  refine xgN_pe_size (pc := 34) C knf_9 dX11_holding_34 ?_
  refine r_icmp_ge 64 (pc := 37) C dX11_holding_37 (by decide) ?_ ?_
  · refine r_sub (lv' := [(2, .int x1)]) [2] rfl ?_
    exact hk7 S3 x1
  · refine r_iload_n (pc := 40) C dX11_holding_40 1 rfl ?_
    refine r_iconst (pc := 41) C dX11_holding_41 (v := (-1)) (by decide) ?_
    refine r_jn0 50 (cx g q E S3) ([(0, .ref (q 0)), (1, .int c1), (2, .int x1), (3, .int x2)]) ([]) ?_ (fun k12 hk13 => ?_)
    · refine r_iload_n (pc := 50) C dX11_holding_50 2 rfl ?_
      refine r_aload_n (pc := 51) C dX11_holding_51 0 rfl ?_
      refine r_iload_n (pc := 52) C dX11_holding_52 3 rfl ?_
      refine r_cVwi (As := [.int x2]) (st := [.int x1]) (wf := cx g q E) (pc := 53) C (fun _ _ h => c_X11_holdersInAnyScope h) kY_X11_holdersInAnyScope kw_5_194 kw_0_35 kw_5_192 rfl ⟨Nat.le_of_ble_eq_true rfl, Nat.le_of_ble_eq_true rfl⟩ rfl rfl ⟨Nat.zero_le _, Nat.zero_le _⟩ 0 rfl rfl rfl (Nat.le_of_ble_eq_true rfl) dX11_holding_53 (fun x8 S9 => ?_)
      refine r_ior (pc := 56) C dX11_holding_56 ?_
      refine r_istoreV_n (pc := 57) C dX11_holding_57 (lv' := fun x10 => [(0, .ref (q 0)), (1, .int c1), (2, .int x10), (3, .int x2)]) (by decide) [1, 2, 0, 3] (fun _ => rfl) (fun x10 => ?_)
      refine r_iinc (pc := 58) C dX11_holding_58 (v := 1) (lv' := fun x11 => [(0, .ref (q 0)), (1, .int c1), (2, .int x10), (3, .int x11)]) 3 rfl (by decide) (by decide) [1, 2, 3, 0] (fun _ => rfl) (fun x11 => ?_)
      refine r_goto 26 (pc := 61) C dX11_holding_61 (by decide) ?_
      exact ih5 S9 x10 x11
    · refine r_icmp_eq 50 (pc := 42) C dX11_holding_42 (by decide) ?_ ?_
      · exact hk13
      · refine r_iload_n (pc := 45) C dX11_holding_45 1 rfl ?_
        refine r_iload_n (pc := 46) C dX11_holding_46 3 rfl ?_
        refine r_icmp_ne 58 (pc := 47) C dX11_holding_47 (by decide) ?_ ?_
        · refine r_iinc (pc := 58) C dX11_holding_58 (v := 1) (lv' := fun x14 => [(0, .ref (q 0)), (1, .int c1), (2, .int x1), (3, .int x14)]) 3 rfl (by decide) (by decide) [1, 2, 3, 0] (fun _ => rfl) (fun x14 => ?_)
          refine r_goto 26 (pc := 61) C dX11_holding_61 (by decide) ?_
          exact ih5 S3 x1 x14
        · exact hk13
set_option maxRecDepth 100000 in
theorem v_X11_holding_26 {S0 : CS} {c1 : Int32} {k6 : CS → Int32 → Option (Int32 × CS)} (hk7 : ∀ (S15 : CS) (x16 : Int32), (gI [21] [37] S0) S15 → jf (gI [21] [37] S0) Prod.snd (k6 S15 x16)) : ∀ (n : Nat) (S3 : CS) (x1 : Int32) (x2 : Int32), (gI [21] [37] S0) S3 → jf (gI [21] [37] S0) Prod.snd (L_X11_holding_26 c1 k6 n S3 x1 x2) := by
  refine f_lo3 (I := (gI [21] [37] S0)) (fun S3 x1 x2 => S3) (fun rec4 ih5 S3 x1 x2 hS3 => ?_)
  refine f_ite ?_ ?_
  · exact hk7 S3 x1 hS3
  · refine f_jm0 hS3 (fun  hS3 => ?_) (fun k12 hk13 => ?_)
    · refine f_bwS (fun _ _ h => gI_tr hS3 (w_X11_holdersInAnyScope h) (by decide) (by decide)) (fun x8 S9 hS9 => ?_)
      refine f_lt (fun x10 => ?_)
      refine f_lt (fun x11 => ?_)
      exact ih5 S9 x10 x11 hS9
    · refine f_ite ?_ ?_
      · exact hk13 hS3
      · refine f_ite ?_ ?_
        · exact hk13 hS3
        · refine f_lt (fun x14 => ?_)
          exact ih5 S3 x1 x14 hS3
def f_X11_holding (S : CS) (a1 : Int32) : Option (Int32 × CS) :=
  jn0 (L_X11_holding_26 a1 (fun S17 x18 =>
  some (x18, S17)) FU S 0 0) (fun k19 =>
  (if a1 = (-1) then
  k19
 else
  bp (f_X8_has_pe S a1) (fun x21 =>
  (if x21 = true then
  k19
 else
  some ((-2), S)))))
set_option maxRecDepth 100000 in
set_option maxHeartbeats 4000000 in
theorem c_X11_holding {g : KG} {q : Nat → Nat} {E : va_W} {S : CS} {a1 : Int32} {r : Int32} {S' : CS} (h : f_X11_holding S a1 = some (r, S')) : ∀ l, kM l yX11_holding cX11_holding 4 (some .int) rm_X11_holding g [.ref (q 0), .int a1] (cx g q E S) (cx g q E S') (some (.int r)) 0 0 := by
  refine k_open_i (own := "MarkChains") (by decide) rfl (Nat.le_of_ble_eq_true rfl) (fun X C hR => ?_)
  refine (?_ : jJ X g ((r, S') : Int32 × CS) (cx g q E S) 0 0 0 [(0, .ref (q 0)), (1, .int a1)] [] (f_X11_holding S a1)) h
  unfold f_X11_holding
  refine r_iload_n (pc := 0) C dX11_holding_0 1 rfl ?_
  refine r_iconst (pc := 1) C dX11_holding_1 (v := (-1)) (by decide) ?_
  refine r_jn0 22 (cx g q E S) ([(0, .ref (q 0)), (1, .int a1)]) ([]) ?_ (fun k19 hk20 => ?_)
  · refine r_iconst (pc := 22) C dX11_holding_22 (v := 0) (by decide) ?_
    refine r_istore_n (pc := 23) C dX11_holding_23 (lv' := [(0, .ref (q 0)), (1, .int a1), (2, .int 0)]) (by decide) [1, 2, 0] rfl ?_
    refine r_iconst (pc := 24) C dX11_holding_24 (v := 0) (by decide) ?_
    refine r_istore_n (pc := 25) C dX11_holding_25 (lv' := [(0, .ref (q 0)), (1, .int a1), (2, .int 0), (3, .int 0)]) (by decide) [1, 2, 3, 0] rfl ?_
    refine l_X11_holding_26 C hR a1 _ (fun S17 x18 => ?_) FU S 0 0
    refine r_iload_n (pc := 64) C dX11_holding_64 0 rfl ?_
    exact r_retWI (wf := cx g q E) hR (pc := 65) dX11_holding_65
  · refine r_icmp_eq 22 (pc := 2) C dX11_holding_2 (by decide) ?_ ?_
    · exact hk20
    · refine r_aload_n (pc := 5) C dX11_holding_5 0 rfl ?_
      refine xg_x_book (pc := 6) C kw_2_75 dX11_holding_6 ?_
      refine xgN_bk_events (pc := 9) C knf_12 dX11_holding_9 ?_
      refine r_iload_n (pc := 12) C dX11_holding_12 1 rfl ?_
      refine r_cVpz (As := [.int a1]) (st := []) (pc := 13) C (fun _ h => c_X8_has_pe h) kY_X8_has kw_3_46 kw_3_47 kw_4_58 rfl ⟨Nat.le_of_ble_eq_true rfl, Nat.le_of_ble_eq_true rfl⟩ rfl rfl ⟨Nat.zero_le _, Nat.zero_le _⟩ 4 rfl rfl rfl (Nat.le_of_ble_eq_true rfl) dX11_holding_13 (fun x21 => ?_)
      refine r_ifb_ne 22 (pc := 16) C dX11_holding_16 (by decide) ?_ ?_
      · exact hk20
      · refine r_bipush (pc := 19) C dX11_holding_19 (v := (-2)) (by decide) ?_
        exact r_retWI (wf := cx g q E) hR (pc := 21) dX11_holding_21
set_option maxRecDepth 100000 in
theorem w_X11_holding {S : CS} {a1 : Int32} {r : Int32} {S' : CS} (h : f_X11_holding S a1 = some (r, S')) : gI [21] [37] S S' := by
  have hS : gI [21] [37] S S := gI_rf
  refine (?_ : jf (gI [21] [37] S) Prod.snd (f_X11_holding S a1)) _ h
  unfold f_X11_holding
  refine f_jm0 hS (fun  hS => ?_) (fun k19 hk20 => ?_)
  · refine v_X11_holding_26 (fun S17 x18 hS17 => ?_) FU S 0 0 hS
    exact f_some hS17
  · refine f_ite ?_ ?_
    · exact hk20 hS
    · refine f_bp (fun x21 => ?_)
      refine f_ite ?_ ?_
      · exact hk20 hS
      · exact f_some hS
abbrev rm_X7_longestGap_l1 : Room := { frames := 1, cells := 0, slots := 0, locals := 22 }
theorem kY_X7_longestGap : kY yX7_longestGap cX7_longestGap 4 (some .int) 1 := ⟨kw_1_10, kw_5_203, by decide, by decide, by decide +kernel⟩
def L_X7_longestGap_l1_4 (S : CS) (c1 : Int32) (k5 : Int32 → Option (Int32)) : Nat → Int32 → Int32 → Option (Int32) := lo2 fun rec3 x1 x2 =>
  (if (S.1 21) ≤ x2 then
  k5 x1
 else
  bp (f_X7_dayAt_l1 S (x2 + 1) c1) (fun x7 =>
  bp (f_X7_dayAt_l1 S x2 c1) (fun x8 =>
  lt ((if x1 < (x7 - x8) then (x7 - x8) else x1)) fun x9 =>
  lt (x2 + 1) fun x10 =>
  rec3 x9 x10)))
set_option maxRecDepth 100000 in
set_option maxHeartbeats 4000000 in
theorem l_X7_longestGap_l1_4 {X : KX} {g : KG} {q : Nat → Nat} {E : va_W} {res : Int32} {S : CS} (C : kC X g cX7_longestGap "MarkChains$Line" rm_X7_longestGap_l1 4) (hR : ∀ (pc : Nat) (lv : List (Nat × Value)), decode cX7_longestGap pc = .ok (.ireturn, 1) → jW X g (cx g q E S) 0 0 pc lv [.int res]) (c1 : Int32) (k5 : Int32 → Option (Int32)) (hk6 : ∀ (x11 : Int32), jJ X g res (cx g q E S) 0 0 38 [(2, .int x11)] [] (k5 x11)) : ∀ (n : Nat) (x1 : Int32) (x2 : Int32), jJ X g res (cx g q E S) 0 0 4 [(0, .ref (q 36)), (1, .int c1), (2, .int x1), (3, .int x2)] [] (L_X7_longestGap_l1_4 S c1 k5 n x1 x2) := by
  refine r_lo2 (fun x1 x2 => cx g q E S) (fun x1 x2 => [(0, .ref (q 36)), (1, .int c1), (2, .int x1), (3, .int x2)]) (fun rec3 ih4 x1 x2 => ?_)
  refine r_iload_n (pc := 4) C dX7_longestGap_4 3 rfl ?_
  refine r_aload_n (pc := 5) C dX7_longestGap_5 0 rfl ?_
  refine xg_l1_size (pc := 6) C kw_2_29 dX7_longestGap_6 ?_
  refine r_icmp_ge 38 (pc := 9) C dX7_longestGap_9 (by decide) ?_ ?_
  · refine r_sub (lv' := [(2, .int x1)]) [2] rfl ?_
    exact hk6 x1
  · refine r_iload_n (pc := 12) C dX7_longestGap_12 2 rfl ?_
    refine r_aload_n (pc := 13) C dX7_longestGap_13 0 rfl ?_
    refine r_iload_n (pc := 14) C dX7_longestGap_14 3 rfl ?_
    refine r_iconst (pc := 15) C dX7_longestGap_15 (v := 1) (by decide) ?_
    refine r_iadd (pc := 16) C dX7_longestGap_16 ?_
    refine r_iload_n (pc := 17) C dX7_longestGap_17 1 rfl ?_
    refine r_cVpi (As := [.int (x2 + 1), .int c1]) (st := [.int x1]) (pc := 18) C (fun _ h => c_X7_dayAt_l1 h) kY_X7_dayAt kw_4_192 kw_0_28 kw_4_190 rfl ⟨Nat.le_of_ble_eq_true rfl, Nat.le_of_ble_eq_true rfl⟩ rfl rfl ⟨Nat.zero_le _, Nat.zero_le _⟩ 35 rfl rfl rfl (Nat.le_of_ble_eq_true rfl) dX7_longestGap_18 (fun x7 => ?_)
    refine r_aload_n (pc := 21) C dX7_longestGap_21 0 rfl ?_
    refine r_iload_n (pc := 22) C dX7_longestGap_22 3 rfl ?_
    refine r_iload_n (pc := 23) C dX7_longestGap_23 1 rfl ?_
    refine r_cVpi (As := [.int x2, .int c1]) (st := [.int x7, .int x1]) (pc := 24) C (fun _ h => c_X7_dayAt_l1 h) kY_X7_dayAt kw_4_192 kw_0_28 kw_4_190 rfl ⟨Nat.le_of_ble_eq_true rfl, Nat.le_of_ble_eq_true rfl⟩ rfl rfl ⟨Nat.zero_le _, Nat.zero_le _⟩ 35 rfl rfl rfl (Nat.le_of_ble_eq_true rfl) dX7_longestGap_24 (fun x8 => ?_)
    refine r_isub (pc := 27) C dX7_longestGap_27 ?_
    refine r_mmax (st := []) (pc := 28) C kw_5_204 (Nat.le_of_ble_eq_true rfl) (Nat.le_of_ble_eq_true rfl) ⟨Nat.zero_le _, Nat.zero_le _⟩ dX7_longestGap_28 ?_
    refine r_istoreV_n (pc := 31) C dX7_longestGap_31 (lv' := fun x9 => [(0, .ref (q 36)), (1, .int c1), (2, .int x9), (3, .int x2)]) (by decide) [1, 2, 0, 3] (fun _ => rfl) (fun x9 => ?_)
    refine r_iinc (pc := 32) C dX7_longestGap_32 (v := 1) (lv' := fun x10 => [(0, .ref (q 36)), (1, .int c1), (2, .int x9), (3, .int x10)]) 3 rfl (by decide) (by decide) [1, 2, 3, 0] (fun _ => rfl) (fun x10 => ?_)
    refine r_goto 4 (pc := 35) C dX7_longestGap_35 (by decide) ?_
    exact ih4 x9 x10
def f_X7_longestGap_l1 (S : CS) (a1 : Int32) : Option (Int32) :=
  L_X7_longestGap_l1_4 S a1 (fun x12 =>
  some x12) FU 0 0
set_option maxRecDepth 100000 in
set_option maxHeartbeats 4000000 in
theorem c_X7_longestGap_l1 {g : KG} {q : Nat → Nat} {E : va_W} {S : CS} {a1 : Int32} {r : Int32} (h : f_X7_longestGap_l1 S a1 = some r) : ∀ l, kM l yX7_longestGap cX7_longestGap 4 (some .int) rm_X7_longestGap_l1 g [.ref (q 36), .int a1] (cx g q E S) (cx g q E S) (some (.int r)) 0 0 := by
  refine k_open_i (own := "MarkChains$Line") (by decide) rfl (Nat.le_of_ble_eq_true rfl) (fun X C hR => ?_)
  refine (?_ : jJ X g (r : Int32) (cx g q E S) 0 0 0 [(0, .ref (q 36)), (1, .int a1)] [] (f_X7_longestGap_l1 S a1)) h
  unfold f_X7_longestGap_l1
  refine r_iconst (pc := 0) C dX7_longestGap_0 (v := 0) (by decide) ?_
  refine r_istore_n (pc := 1) C dX7_longestGap_1 (lv' := [(0, .ref (q 36)), (1, .int a1), (2, .int 0)]) (by decide) [1, 2, 0] rfl ?_
  refine r_iconst (pc := 2) C dX7_longestGap_2 (v := 0) (by decide) ?_
  refine r_istore_n (pc := 3) C dX7_longestGap_3 (lv' := [(0, .ref (q 36)), (1, .int a1), (2, .int 0), (3, .int 0)]) (by decide) [1, 2, 3, 0] rfl ?_
  refine l_X7_longestGap_l1_4 C hR a1 _ (fun x12 => ?_) FU 0 0
  refine r_iload_n (pc := 38) C dX7_longestGap_38 0 rfl ?_
  exact r_retPI hR (pc := 39) dX7_longestGap_39
