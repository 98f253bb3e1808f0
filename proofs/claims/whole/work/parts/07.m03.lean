abbrev rm_X12_whyNotGood : Room := { frames := 5, cells := 0, slots := 0, locals := 112 }
theorem kY_X12_whyNotGood : kY yX12_whyNotGood cX12_whyNotGood 3 (some .int) 1 := ⟨kw_1_13, kw_7_16, by decide, by decide, by decide +kernel⟩
def L_X12_whyNotGood_2 (c1 : Int32) (k5 : MS → Option (Int32 × MS)) : Nat → MS → Int32 → Option (Int32 × MS) := lo2 fun rec3 S2 x1 =>
  chk 725 1177 (
  (if (S2.2 0 (725 : Int32).toNatClampNeg) ≤ x1 then
  k5 S2
 else
  chk (726 + x1) 1177 (
  chk ((726 + x1) + 1) 1177 (
  bw (f_X12_worked S2 (735 + (S2.2 0 (726 + x1).toNatClampNeg)) (735 + (S2.2 0 ((726 + x1) + 1).toNatClampNeg)) c1) (fun x7 S8 =>
  (if x7 = 0 then
  some (x1, S8)
 else
  lt (x1 + 1) fun x9 =>
  rec3 S8 x9))))))
set_option maxRecDepth 100000 in
set_option maxHeartbeats 4000000 in
theorem l_X12_whyNotGood_2 {X : KX} {g : KG} {q : Nat → Nat} {res : Int32 × MS} (C : kC X g cX12_whyNotGood "MarkChainsModel" rm_X12_whyNotGood 3) (hR : ∀ (pc : Nat) (lv : List (Nat × Value)), decode cX12_whyNotGood pc = .ok (.ireturn, 1) → jW X g (mw g q res.2) 0 0 pc lv [.int res.1]) (c1 : Int32) (k5 : MS → Option (Int32 × MS)) (hk6 : ∀ (S10 : MS), jJ X g res (mw g q S10) 0 0 60 [(0, .ref (q 0)), (1, .int c1)] [] (k5 S10)) : ∀ (n : Nat) (S2 : MS) (x1 : Int32), jJ X g res (mw g q S2) 0 0 2 [(0, .ref (q 0)), (1, .int c1), (2, .int x1)] [] (L_X12_whyNotGood_2 c1 k5 n S2 x1) := by
  refine r_lo2 (fun S2 x1 => mw g q S2) (fun S2 x1 => [(0, .ref (q 0)), (1, .int c1), (2, .int x1)]) (fun rec3 ih4 S2 x1 => ?_)
  refine r_iload_n (pc := 2) C dX12_whyNotGood_2 2 rfl ?_
  refine r_aload_n (pc := 3) C dX12_whyNotGood_3 0 rfl ?_
  refine mg_all (pc := 4) C dX12_whyNotGood_4 ?_
  refine r_sipush (pc := 7) C dX12_whyNotGood_7 (v := 725) (by decide) ?_
  refine ml_all (pc := 10) C dX12_whyNotGood_10 ?_
  refine r_icmp_ge 60 (pc := 11) C dX12_whyNotGood_11 (by decide) ?_ ?_
  · refine r_sub (lv' := [(0, .ref (q 0)), (1, .int c1)]) [0, 1] rfl ?_
    exact hk6 S2
  · refine r_aload_n (pc := 14) C dX12_whyNotGood_14 0 rfl ?_
    refine r_sipush (pc := 15) C dX12_whyNotGood_15 (v := 735) (by decide) ?_
    refine r_aload_n (pc := 18) C dX12_whyNotGood_18 0 rfl ?_
    refine mg_all (pc := 19) C dX12_whyNotGood_19 ?_
    refine r_sipush (pc := 22) C dX12_whyNotGood_22 (v := 726) (by decide) ?_
    refine r_iload_n (pc := 25) C dX12_whyNotGood_25 2 rfl ?_
    refine r_iadd (pc := 26) C dX12_whyNotGood_26 ?_
    refine ml_all (pc := 27) C dX12_whyNotGood_27 ?_
    refine r_iadd (pc := 28) C dX12_whyNotGood_28 ?_
    refine r_sipush (pc := 29) C dX12_whyNotGood_29 (v := 735) (by decide) ?_
    refine r_aload_n (pc := 32) C dX12_whyNotGood_32 0 rfl ?_
    refine mg_all (pc := 33) C dX12_whyNotGood_33 ?_
    refine r_sipush (pc := 36) C dX12_whyNotGood_36 (v := 726) (by decide) ?_
    refine r_iload_n (pc := 39) C dX12_whyNotGood_39 2 rfl ?_
    refine r_iadd (pc := 40) C dX12_whyNotGood_40 ?_
    refine r_iconst (pc := 41) C dX12_whyNotGood_41 (v := 1) (by decide) ?_
    refine r_iadd (pc := 42) C dX12_whyNotGood_42 ?_
    refine ml_all (pc := 43) C dX12_whyNotGood_43 ?_
    refine r_iadd (pc := 44) C dX12_whyNotGood_44 ?_
    refine r_iload_n (pc := 45) C dX12_whyNotGood_45 1 rfl ?_
    refine r_cVwi (As := [.int (735 + (S2.2 0 (726 + x1).toNatClampNeg)), .int (735 + (S2.2 0 ((726 + x1) + 1).toNatClampNeg)), .int c1]) (st := []) (wf := mw g q) (pc := 46) C (fun _ _ h => c_X12_worked h) kY_X12_worked kw_7_19 kw_0_62 kw_7_17 rfl ⟨Nat.le_of_ble_eq_true rfl, Nat.le_of_ble_eq_true rfl⟩ rfl rfl ⟨Nat.zero_le _, Nat.zero_le _⟩ 0 rfl rfl rfl (Nat.le_of_ble_eq_true rfl) dX12_whyNotGood_46 (fun x7 S8 => ?_)
    refine r_if_ne 54 (pc := 49) C dX12_whyNotGood_49 (by decide) ?_ ?_
    · refine r_iinc (pc := 54) C dX12_whyNotGood_54 (v := 1) (lv' := fun x9 => [(0, .ref (q 0)), (1, .int c1), (2, .int x9)]) 2 rfl (by decide) (by decide) [1, 2, 0] (fun _ => rfl) (fun x9 => ?_)
      refine r_goto 2 (pc := 57) C dX12_whyNotGood_57 (by decide) ?_
      exact ih4 S8 x9
    · refine r_iload_n (pc := 52) C dX12_whyNotGood_52 2 rfl ?_
      exact r_retWI (wf := mw g q) hR (pc := 53) dX12_whyNotGood_53
set_option maxRecDepth 100000 in
theorem v_X12_whyNotGood_2 {S0 : MS} {c1 : Int32} {k5 : MS → Option (Int32 × MS)} (hk6 : ∀ (S10 : MS), (fI [] [17] S0) S10 → jf (fI [] [17] S0) Prod.snd (k5 S10)) : ∀ (n : Nat) (S2 : MS) (x1 : Int32), (fI [] [17] S0) S2 → jf (fI [] [17] S0) Prod.snd (L_X12_whyNotGood_2 c1 k5 n S2 x1) := by
  refine f_lo2 (I := (fI [] [17] S0)) (fun S2 x1 => S2) (fun rec3 ih4 S2 x1 hS2 => ?_)
  refine f_chk ?_
  refine f_ite ?_ ?_
  · exact hk6 S2 hS2
  · refine f_chk ?_
    refine f_chk ?_
    refine f_bwS (fun _ _ h => fI_tr hS2 (w_X12_worked h) (by decide) (by decide)) (fun x7 S8 hS8 => ?_)
    refine f_ite ?_ ?_
    · exact f_some hS8
    · refine f_lt (fun x9 => ?_)
      exact ih4 S8 x9 hS8
def f_X12_whyNotGood (S : MS) (a1 : Int32) : Option (Int32 × MS) :=
  L_X12_whyNotGood_2 a1 (fun S11 =>
  bp (f_X12_eventOf S11 a1 1) (fun x12 =>
  (if x12 = (-1) then
  some ((-1), S11)
 else
  bp (f_X12_of S11 a1 6) (fun x13 =>
  bp (f_X12_eventOf S11 a1 1) (fun x14 =>
  (if x13 ≤ x14 then
  some ((-1), S11)
 else
  some (8, S11))))))) FU S 0
set_option maxRecDepth 100000 in
set_option maxHeartbeats 4000000 in
theorem c_X12_whyNotGood {g : KG} {q : Nat → Nat} {S : MS} {a1 : Int32} {r : Int32} {S' : MS} (h : f_X12_whyNotGood S a1 = some (r, S')) : ∀ l, kM l yX12_whyNotGood cX12_whyNotGood 3 (some .int) rm_X12_whyNotGood g [.ref (q 0), .int a1] (mw g q S) (mw g q S') (some (.int r)) 0 0 := by
  refine k_open_i (own := "MarkChainsModel") (by decide) rfl (Nat.le_of_ble_eq_true rfl) (fun X C hR => ?_)
  refine (?_ : jJ X g ((r, S') : Int32 × MS) (mw g q S) 0 0 0 [(0, .ref (q 0)), (1, .int a1)] [] (f_X12_whyNotGood S a1)) h
  unfold f_X12_whyNotGood
  refine r_iconst (pc := 0) C dX12_whyNotGood_0 (v := 0) (by decide) ?_
  refine r_istore_n (pc := 1) C dX12_whyNotGood_1 (lv' := [(0, .ref (q 0)), (1, .int a1), (2, .int 0)]) (by decide) [1, 2, 0] rfl ?_
  refine l_X12_whyNotGood_2 C hR a1 _ (fun S11 => ?_) FU S 0
  refine r_aload_n (pc := 60) C dX12_whyNotGood_60 0 rfl ?_
  refine r_iload_n (pc := 61) C dX12_whyNotGood_61 1 rfl ?_
  refine r_iconst (pc := 62) C dX12_whyNotGood_62 (v := 1) (by decide) ?_
  refine r_cVpi (As := [.int a1, .int 1]) (st := []) (pc := 63) C (fun _ h => c_X12_eventOf h) kY_X12_eventOf kw_7_35 kw_0_66 kw_7_33 rfl ⟨Nat.le_of_ble_eq_true rfl, Nat.le_of_ble_eq_true rfl⟩ rfl rfl ⟨Nat.zero_le _, Nat.zero_le _⟩ 0 rfl rfl rfl (Nat.le_of_ble_eq_true rfl) dX12_whyNotGood_63 (fun x12 => ?_)
  refine r_iconst (pc := 66) C dX12_whyNotGood_66 (v := (-1)) (by decide) ?_
  refine r_icmp_eq 91 (pc := 67) C dX12_whyNotGood_67 (by decide) ?_ ?_
  · refine r_iconst (pc := 91) C dX12_whyNotGood_91 (v := (-1)) (by decide) ?_
    exact r_retWI (wf := mw g q) hR (pc := 92) dX12_whyNotGood_92
  · refine r_aload_n (pc := 70) C dX12_whyNotGood_70 0 rfl ?_
    refine r_iload_n (pc := 71) C dX12_whyNotGood_71 1 rfl ?_
    refine r_bipush (pc := 72) C dX12_whyNotGood_72 (v := 6) (by decide) ?_
    refine r_cVpi (As := [.int a1, .int 6]) (st := []) (pc := 74) C (fun _ h => c_X12_of h) kY_X12_of kw_7_27 kw_0_64 kw_7_25 rfl ⟨Nat.le_of_ble_eq_true rfl, Nat.le_of_ble_eq_true rfl⟩ rfl rfl ⟨Nat.zero_le _, Nat.zero_le _⟩ 0 rfl rfl rfl (Nat.le_of_ble_eq_true rfl) dX12_whyNotGood_74 (fun x13 => ?_)
    refine r_aload_n (pc := 77) C dX12_whyNotGood_77 0 rfl ?_
    refine r_iload_n (pc := 78) C dX12_whyNotGood_78 1 rfl ?_
    refine r_iconst (pc := 79) C dX12_whyNotGood_79 (v := 1) (by decide) ?_
    refine r_cVpi (As := [.int a1, .int 1]) (st := [.int x13]) (pc := 80) C (fun _ h => c_X12_eventOf h) kY_X12_eventOf kw_7_35 kw_0_66 kw_7_33 rfl ⟨Nat.le_of_ble_eq_true rfl, Nat.le_of_ble_eq_true rfl⟩ rfl rfl ⟨Nat.zero_le _, Nat.zero_le _⟩ 0 rfl rfl rfl (Nat.le_of_ble_eq_true rfl) dX12_whyNotGood_80 (fun x14 => ?_)
    refine r_icmp_le 91 (pc := 83) C dX12_whyNotGood_83 (by decide) ?_ ?_
    · refine r_iconst (pc := 91) C dX12_whyNotGood_91 (v := (-1)) (by decide) ?_
      exact r_retWI (wf := mw g q) hR (pc := 92) dX12_whyNotGood_92
    · refine r_bipush (pc := 86) C dX12_whyNotGood_86 (v := 8) (by decide) ?_
      refine r_goto 92 (pc := 88) C dX12_whyNotGood_88 (by decide) ?_
      exact r_retWI (wf := mw g q) hR (pc := 92) dX12_whyNotGood_92
set_option maxRecDepth 100000 in
theorem w_X12_whyNotGood {S : MS} {a1 : Int32} {r : Int32} {S' : MS} (h : f_X12_whyNotGood S a1 = some (r, S')) : fI [] [17] S S' := by
  have hS : fI [] [17] S S := fI_rf
  refine (?_ : jf (fI [] [17] S) Prod.snd (f_X12_whyNotGood S a1)) _ h
  unfold f_X12_whyNotGood
  refine v_X12_whyNotGood_2 (fun S11 hS11 => ?_) FU S 0 hS
  refine f_bp (fun x12 => ?_)
  refine f_ite ?_ ?_
  · exact f_some hS11
  · refine f_bp (fun x13 => ?_)
    refine f_bp (fun x14 => ?_)
    refine f_ite ?_ ?_
    · exact f_some hS11
    · exact f_some hS11
abbrev rm_X12_good : Room := { frames := 6, cells := 0, slots := 0, locals := 134 }
theorem kY_X12_good : kY yX12_good cX12_good 2 (some .int) 1 := ⟨kw_1_13, kw_7_8, by decide, by decide, by decide +kernel⟩
def f_X12_good (S : MS) (a1 : Int32) : Option (Int32 × MS) :=
  bp (f_X12_isMark S a1) (fun x1 =>
  (if x1 = true then
  bw (f_X12_whyNotGood S a1) (fun x2 S3 =>
  some (x2, S3))
 else
  some ((-2), S)))
set_option maxRecDepth 100000 in
set_option maxHeartbeats 4000000 in
theorem c_X12_good {g : KG} {q : Nat → Nat} {S : MS} {a1 : Int32} {r : Int32} {S' : MS} (h : f_X12_good S a1 = some (r, S')) : ∀ l, kM l yX12_good cX12_good 2 (some .int) rm_X12_good g [.ref (q 0), .int a1] (mw g q S) (mw g q S') (some (.int r)) 0 0 := by
  refine k_open_i (own := "MarkChainsModel") (by decide) rfl (Nat.le_of_ble_eq_true rfl) (fun X C hR => ?_)
  refine (?_ : jJ X g ((r, S') : Int32 × MS) (mw g q S) 0 0 0 [(0, .ref (q 0)), (1, .int a1)] [] (f_X12_good S a1)) h
  unfold f_X12_good
  refine r_aload_n (pc := 0) C dX12_good_0 0 rfl ?_
  refine r_iload_n (pc := 1) C dX12_good_1 1 rfl ?_
  refine r_cVpz (As := [.int a1]) (st := []) (pc := 2) C (fun _ h => c_X12_isMark h) kY_X12_isMark kw_7_11 kw_0_60 kw_7_9 rfl ⟨Nat.le_of_ble_eq_true rfl, Nat.le_of_ble_eq_true rfl⟩ rfl rfl ⟨Nat.zero_le _, Nat.zero_le _⟩ 0 rfl rfl rfl (Nat.le_of_ble_eq_true rfl) dX12_good_2 (fun x1 => ?_)
  refine r_ifb_eq 16 (pc := 5) C dX12_good_5 (by decide) ?_ ?_
  · refine r_bipush (pc := 16) C dX12_good_16 (v := (-2)) (by decide) ?_
    exact r_retWI (wf := mw g q) hR (pc := 18) dX12_good_18
  · refine r_aload_n (pc := 8) C dX12_good_8 0 rfl ?_
    refine r_iload_n (pc := 9) C dX12_good_9 1 rfl ?_
    refine r_cVwi (As := [.int a1]) (st := []) (wf := mw g q) (pc := 10) C (fun _ _ h => c_X12_whyNotGood h) kY_X12_whyNotGood kw_7_15 kw_0_61 kw_7_13 rfl ⟨Nat.le_of_ble_eq_true rfl, Nat.le_of_ble_eq_true rfl⟩ rfl rfl ⟨Nat.zero_le _, Nat.zero_le _⟩ 0 rfl rfl rfl (Nat.le_of_ble_eq_true rfl) dX12_good_10 (fun x2 S3 => ?_)
    refine r_goto 18 (pc := 13) C dX12_good_13 (by decide) ?_
    exact r_retWI (wf := mw g q) hR (pc := 18) dX12_good_18
set_option maxRecDepth 100000 in
theorem w_X12_good {S : MS} {a1 : Int32} {r : Int32} {S' : MS} (h : f_X12_good S a1 = some (r, S')) : fI [] [17] S S' := by
  have hS : fI [] [17] S S := fI_rf
  refine (?_ : jf (fI [] [17] S) Prod.snd (f_X12_good S a1)) _ h
  unfold f_X12_good
  refine f_bp (fun x1 => ?_)
  refine f_ite ?_ ?_
  · refine f_bwS (fun _ _ h => fI_tr hS (w_X12_whyNotGood h) (by decide) (by decide)) (fun x2 S3 hS3 => ?_)
    exact f_some hS3
  · exact f_some hS
abbrev rm_X12_mark : Room := { frames := 3, cells := 0, slots := 0, locals := 63 }
theorem kY_X12_mark : kY yX12_mark cX12_mark 3 (some .int) 2 := ⟨kw_1_13, kw_7_43, by decide, by decide, by decide +kernel⟩
def f_X12_mark (S : MS) (a1 : Int32) (a2 : Int32) : Option (Int32) :=
  bp (f_X12_isMark S a1) (fun x1 =>
  (if x1 = true then
  bp (f_X12_isIn a2 0 11) (fun x2 =>
  (if x2 = true then
  (if 9 ≤ a2 then
  (if a2 = 9 then
  bp (f_X12_ageOf S a1) (fun x4 =>
  some x4)
 else
  bp (f_X12_of S a1 (a2 - 1)) (fun x3 =>
  some x3))
 else
  bp (f_X12_of S a1 a2) (fun x5 =>
  some x5))
 else
  some (-1000000)))
 else
  some (-1000000)))
set_option maxRecDepth 100000 in
set_option maxHeartbeats 4000000 in
theorem c_X12_mark {g : KG} {q : Nat → Nat} {S : MS} {a1 : Int32} {a2 : Int32} {r : Int32} (h : f_X12_mark S a1 a2 = some r) : ∀ l, kM l yX12_mark cX12_mark 3 (some .int) rm_X12_mark g [.ref (q 0), .int a1, .int a2] (mw g q S) (mw g q S) (some (.int r)) 0 0 := by
  refine k_open_i (own := "MarkChainsModel") (by decide) rfl (Nat.le_of_ble_eq_true rfl) (fun X C hR => ?_)
  refine (?_ : jJ X g (r : Int32) (mw g q S) 0 0 0 [(0, .ref (q 0)), (1, .int a1), (2, .int a2)] [] (f_X12_mark S a1 a2)) h
  unfold f_X12_mark
  refine r_aload_n (pc := 0) C dX12_mark_0 0 rfl ?_
  refine r_iload_n (pc := 1) C dX12_mark_1 1 rfl ?_
  refine r_cVpz (As := [.int a1]) (st := []) (pc := 2) C (fun _ h => c_X12_isMark h) kY_X12_isMark kw_7_11 kw_0_60 kw_7_9 rfl ⟨Nat.le_of_ble_eq_true rfl, Nat.le_of_ble_eq_true rfl⟩ rfl rfl ⟨Nat.zero_le _, Nat.zero_le _⟩ 0 rfl rfl rfl (Nat.le_of_ble_eq_true rfl) dX12_mark_2 (fun x1 => ?_)
  refine r_ifb_eq 18 (pc := 5) C dX12_mark_5 (by decide) ?_ ?_
  · refine r_ldc (pc := 18) C dX12_mark_18 kw_7_44 ?_
    exact r_retPI hR (pc := 20) dX12_mark_20
  · refine r_iload_n (pc := 8) C dX12_mark_8 2 rfl ?_
    refine r_iconst (pc := 9) C dX12_mark_9 (v := 0) (by decide) ?_
    refine r_bipush (pc := 10) C dX12_mark_10 (v := 11) (by decide) ?_
    refine r_cSpz (As := [.int a2, .int 0, .int 11]) (st := []) (pc := 12) C (fun _ h => c_X12_isIn h) kY_X12_isIn kw_6_124 kw_6_123 rfl ⟨Nat.le_of_ble_eq_true rfl, Nat.le_of_ble_eq_true rfl⟩ rfl rfl ⟨Nat.zero_le _, Nat.zero_le _⟩ rfl (Nat.le_of_ble_eq_true rfl) dX12_mark_12 (fun x2 => ?_)
    refine r_ifb_ne 21 (pc := 15) C dX12_mark_15 (by decide) ?_ ?_
    · refine r_iload_n (pc := 21) C dX12_mark_21 2 rfl ?_
      refine r_bipush (pc := 22) C dX12_mark_22 (v := 9) (by decide) ?_
      refine r_icmp_ge 36 (pc := 24) C dX12_mark_24 (by decide) ?_ ?_
      · refine r_iload_n (pc := 36) C dX12_mark_36 2 rfl ?_
        refine r_bipush (pc := 37) C dX12_mark_37 (v := 9) (by decide) ?_
        refine r_icmp_ne 50 (pc := 39) C dX12_mark_39 (by decide) ?_ ?_
        · refine r_aload_n (pc := 50) C dX12_mark_50 0 rfl ?_
          refine r_iload_n (pc := 51) C dX12_mark_51 1 rfl ?_
          refine r_iload_n (pc := 52) C dX12_mark_52 2 rfl ?_
          refine r_iconst (pc := 53) C dX12_mark_53 (v := 1) (by decide) ?_
          refine r_isub (pc := 54) C dX12_mark_54 ?_
          refine r_cVpi (As := [.int a1, .int (a2 - 1)]) (st := []) (pc := 55) C (fun _ h => c_X12_of h) kY_X12_of kw_7_27 kw_0_64 kw_7_25 rfl ⟨Nat.le_of_ble_eq_true rfl, Nat.le_of_ble_eq_true rfl⟩ rfl rfl ⟨Nat.zero_le _, Nat.zero_le _⟩ 0 rfl rfl rfl (Nat.le_of_ble_eq_true rfl) dX12_mark_55 (fun x3 => ?_)
          exact r_retPI hR (pc := 58) dX12_mark_58
        · refine r_aload_n (pc := 42) C dX12_mark_42 0 rfl ?_
          refine r_iload_n (pc := 43) C dX12_mark_43 1 rfl ?_
          refine r_cVpi (As := [.int a1]) (st := []) (pc := 44) C (fun _ h => c_X12_ageOf h) kY_X12_ageOf kw_7_31 kw_0_65 kw_7_29 rfl ⟨Nat.le_of_ble_eq_true rfl, Nat.le_of_ble_eq_true rfl⟩ rfl rfl ⟨Nat.zero_le _, Nat.zero_le _⟩ 0 rfl rfl rfl (Nat.le_of_ble_eq_true rfl) dX12_mark_44 (fun x4 => ?_)
          refine r_goto 58 (pc := 47) C dX12_mark_47 (by decide) ?_
          exact r_retPI hR (pc := 58) dX12_mark_58
      · refine r_aload_n (pc := 27) C dX12_mark_27 0 rfl ?_
        refine r_iload_n (pc := 28) C dX12_mark_28 1 rfl ?_
        refine r_iload_n (pc := 29) C dX12_mark_29 2 rfl ?_
        refine r_cVpi (As := [.int a1, .int a2]) (st := []) (pc := 30) C (fun _ h => c_X12_of h) kY_X12_of kw_7_27 kw_0_64 kw_7_25 rfl ⟨Nat.le_of_ble_eq_true rfl, Nat.le_of_ble_eq_true rfl⟩ rfl rfl ⟨Nat.zero_le _, Nat.zero_le _⟩ 0 rfl rfl rfl (Nat.le_of_ble_eq_true rfl) dX12_mark_30 (fun x5 => ?_)
        refine r_goto 58 (pc := 33) C dX12_mark_33 (by decide) ?_
        exact r_retPI hR (pc := 58) dX12_mark_58
    · refine r_ldc (pc := 18) C dX12_mark_18 kw_7_44 ?_
      exact r_retPI hR (pc := 20) dX12_mark_20
abbrev rm_X12_told : Room := { frames := 1, cells := 0, slots := 0, locals := 22 }
theorem kY_X12_told : kY yX12_told cX12_told 4 (some .int) 3 := ⟨kw_1_13, kw_7_48, by decide, by decide, by decide +kernel⟩
def f_X12_told (S : MS) (a1 : Int32) (a2 : Int32) (a3 : Int32) : Option (Int32) :=
  bp (f_X12_isIn a1 0 2) (fun x1 =>
  (if x1 = true then
  chk a1 1177 (
  bp (f_X12_isIn a2 0 ((S.2 0 a1.toNatClampNeg) - 1)) (fun x2 =>
  (if x2 = true then
  bp (f_X12_isIn a3 0 1) (fun x3 =>
  (if x3 = true then
  jn1 (fun (x4 : Int32) =>
  chk ((x4 + (2 * a2)) + a3) 1177 (
  some (S.2 0 ((x4 + (2 * a2)) + a3).toNatClampNeg))) (fun k5 =>
  (if a1 = 0 then
  k5 5
 else
  (if a1 = 1 then
  k5 17
 else
  k5 33)))
 else
  some (-1000000)))
 else
  some (-1000000))))
 else
  some (-1000000)))
set_option maxRecDepth 100000 in
set_option maxHeartbeats 4000000 in
theorem c_X12_told {g : KG} {q : Nat → Nat} {S : MS} {a1 : Int32} {a2 : Int32} {a3 : Int32} {r : Int32} (h : f_X12_told S a1 a2 a3 = some r) : ∀ l, kM l yX12_told cX12_told 4 (some .int) rm_X12_told g [.ref (q 0), .int a1, .int a2, .int a3] (mw g q S) (mw g q S) (some (.int r)) 0 0 := by
  refine k_open_i (own := "MarkChainsModel") (by decide) rfl (Nat.le_of_ble_eq_true rfl) (fun X C hR => ?_)
  refine (?_ : jJ X g (r : Int32) (mw g q S) 0 0 0 [(0, .ref (q 0)), (1, .int a1), (2, .int a2), (3, .int a3)] [] (f_X12_told S a1 a2 a3)) h
  unfold f_X12_told
  refine r_iload_n (pc := 0) C dX12_told_0 1 rfl ?_
  refine r_iconst (pc := 1) C dX12_told_1 (v := 0) (by decide) ?_
  refine r_iconst (pc := 2) C dX12_told_2 (v := 2) (by decide) ?_
  refine r_cSpz (As := [.int a1, .int 0, .int 2]) (st := []) (pc := 3) C (fun _ h => c_X12_isIn h) kY_X12_isIn kw_6_124 kw_6_123 rfl ⟨Nat.le_of_ble_eq_true rfl, Nat.le_of_ble_eq_true rfl⟩ rfl rfl ⟨Nat.zero_le _, Nat.zero_le _⟩ rfl (Nat.le_of_ble_eq_true rfl) dX12_told_3 (fun x1 => ?_)
  refine r_ifb_eq 34 (pc := 6) C dX12_told_6 (by decide) ?_ ?_
  · refine r_ldc (pc := 34) C dX12_told_34 kw_7_44 ?_
    exact r_retPI hR (pc := 36) dX12_told_36
  · refine r_iload_n (pc := 9) C dX12_told_9 2 rfl ?_
    refine r_iconst (pc := 10) C dX12_told_10 (v := 0) (by decide) ?_
    refine r_aload_n (pc := 11) C dX12_told_11 0 rfl ?_
    refine mg_all (pc := 12) C dX12_told_12 ?_
    refine r_iload_n (pc := 15) C dX12_told_15 1 rfl ?_
    refine ml_all (pc := 16) C dX12_told_16 ?_
    refine r_iconst (pc := 17) C dX12_told_17 (v := 1) (by decide) ?_
    refine r_isub (pc := 18) C dX12_told_18 ?_
    refine r_cSpz (As := [.int a2, .int 0, .int ((S.2 0 a1.toNatClampNeg) - 1)]) (st := []) (pc := 19) C (fun _ h => c_X12_isIn h) kY_X12_isIn kw_6_124 kw_6_123 rfl ⟨Nat.le_of_ble_eq_true rfl, Nat.le_of_ble_eq_true rfl⟩ rfl rfl ⟨Nat.zero_le _, Nat.zero_le _⟩ rfl (Nat.le_of_ble_eq_true rfl) dX12_told_19 (fun x2 => ?_)
    refine r_ifb_eq 34 (pc := 22) C dX12_told_22 (by decide) ?_ ?_
    · refine r_ldc (pc := 34) C dX12_told_34 kw_7_44 ?_
      exact r_retPI hR (pc := 36) dX12_told_36
    · refine r_iload_n (pc := 25) C dX12_told_25 3 rfl ?_
      refine r_iconst (pc := 26) C dX12_told_26 (v := 0) (by decide) ?_
      refine r_iconst (pc := 27) C dX12_told_27 (v := 1) (by decide) ?_
      refine r_cSpz (As := [.int a3, .int 0, .int 1]) (st := []) (pc := 28) C (fun _ h => c_X12_isIn h) kY_X12_isIn kw_6_124 kw_6_123 rfl ⟨Nat.le_of_ble_eq_true rfl, Nat.le_of_ble_eq_true rfl⟩ rfl rfl ⟨Nat.zero_le _, Nat.zero_le _⟩ rfl (Nat.le_of_ble_eq_true rfl) dX12_told_28 (fun x3 => ?_)
      refine r_ifb_ne 37 (pc := 31) C dX12_told_31 (by decide) ?_ ?_
      · refine r_aload_n (pc := 37) C dX12_told_37 0 rfl ?_
        refine mg_all (pc := 38) C dX12_told_38 ?_
        refine r_iload_n (pc := 41) C dX12_told_41 1 rfl ?_
        refine r_jn1 61 (fun (x4 : Int32) => mw g q S) (fun (x4 : Int32) => [(2, .int a2), (3, .int a3)]) (fun (x4 : Int32) => [.int x4, .ref (q 1)]) (fun x4 => ?_) (fun k5 hk6 => ?_)
        · refine r_iconst (pc := 61) C dX12_told_61 (v := 2) (by decide) ?_
          refine r_iload_n (pc := 62) C dX12_told_62 0 rfl ?_
          refine r_imul (pc := 63) C dX12_told_63 ?_
          refine r_iadd (pc := 64) C dX12_told_64 ?_
          refine r_iload_n (pc := 65) C dX12_told_65 1 rfl ?_
          refine r_iadd (pc := 66) C dX12_told_66 ?_
          refine ml_all (pc := 67) C dX12_told_67 ?_
          exact r_retPI hR (pc := 68) dX12_told_68
        · refine r_if_ne 49 (pc := 42) C dX12_told_42 (by decide) ?_ ?_
          · refine r_iload_n (pc := 49) C dX12_told_49 1 rfl ?_
            refine r_iconst (pc := 50) C dX12_told_50 (v := 1) (by decide) ?_
            refine r_icmp_ne 59 (pc := 51) C dX12_told_51 (by decide) ?_ ?_
            · refine r_bipush (pc := 59) C dX12_told_59 (v := 33) (by decide) ?_
              refine r_sub (lv' := [(2, .int a2), (3, .int a3)]) [2, 3] rfl ?_
              exact hk6 33
            · refine r_bipush (pc := 54) C dX12_told_54 (v := 17) (by decide) ?_
              refine r_goto 61 (pc := 56) C dX12_told_56 (by decide) ?_
              refine r_sub (lv' := [(2, .int a2), (3, .int a3)]) [2, 3] rfl ?_
              exact hk6 17
          · refine r_iconst (pc := 45) C dX12_told_45 (v := 5) (by decide) ?_
            refine r_goto 61 (pc := 46) C dX12_told_46 (by decide) ?_
            refine r_sub (lv' := [(2, .int a2), (3, .int a3)]) [2, 3] rfl ?_
            exact hk6 5
      · refine r_ldc (pc := 34) C dX12_told_34 kw_7_44 ?_
        exact r_retPI hR (pc := 36) dX12_told_36
abbrev rm_X12_standsOn : Room := { frames := 2, cells := 0, slots := 0, locals := 42 }
theorem kY_X12_standsOn : kY yX12_standsOn cX12_standsOn 3 (some .boolean) 2 := ⟨kw_1_13, kw_7_60, by decide, by decide, by decide +kernel⟩
def f_X12_standsOn (S : MS) (a1 : Int32) (a2 : Int32) : Option (Bool) :=
  bp (f_X12_of S a1 9) (fun x1 =>
  (if x1 = (-1) then
  some false
 else
  bp (f_X12_of S a1 9) (fun x2 =>
  (if a2 < x2 then
  some false
 else
  bp (f_X12_of S a1 10) (fun x3 =>
  (if x3 = (-1) then
  some true
 else
  bp (f_X12_of S a1 10) (fun x4 =>
  (if x4 ≤ a2 then
  some false
 else
  some true))))))))
set_option maxRecDepth 100000 in
set_option maxHeartbeats 4000000 in
theorem c_X12_standsOn {g : KG} {q : Nat → Nat} {S : MS} {a1 : Int32} {a2 : Int32} {r : Bool} (h : f_X12_standsOn S a1 a2 = some r) : ∀ l, kM l yX12_standsOn cX12_standsOn 3 (some .boolean) rm_X12_standsOn g [.ref (q 0), .int a1, .int a2] (mw g q S) (mw g q S) (some (.int (b2 r))) 0 0 := by
  refine k_open_z (own := "MarkChainsModel") (by decide) rfl (Nat.le_of_ble_eq_true rfl) (fun X C hR => ?_)
  refine (?_ : jJ X g (r : Bool) (mw g q S) 0 0 0 [(0, .ref (q 0)), (1, .int a1), (2, .int a2)] [] (f_X12_standsOn S a1 a2)) h
  unfold f_X12_standsOn
  refine r_aload_n (pc := 0) C dX12_standsOn_0 0 rfl ?_
  refine r_iload_n (pc := 1) C dX12_standsOn_1 1 rfl ?_
  refine r_bipush (pc := 2) C dX12_standsOn_2 (v := 9) (by decide) ?_
  refine r_cVpi (As := [.int a1, .int 9]) (st := []) (pc := 4) C (fun _ h => c_X12_of h) kY_X12_of kw_7_27 kw_0_64 kw_7_25 rfl ⟨Nat.le_of_ble_eq_true rfl, Nat.le_of_ble_eq_true rfl⟩ rfl rfl ⟨Nat.zero_le _, Nat.zero_le _⟩ 0 rfl rfl rfl (Nat.le_of_ble_eq_true rfl) dX12_standsOn_4 (fun x1 => ?_)
  refine r_iconst (pc := 7) C dX12_standsOn_7 (v := (-1)) (by decide) ?_
  refine r_icmp_eq 48 (pc := 8) C dX12_standsOn_8 (by decide) ?_ ?_
  · refine r_iconst (pc := 48) C dX12_standsOn_48 (v := 0) (by decide) ?_
    exact r_retPZ hR rfl (pc := 49) dX12_standsOn_49
  · refine r_aload_n (pc := 11) C dX12_standsOn_11 0 rfl ?_
    refine r_iload_n (pc := 12) C dX12_standsOn_12 1 rfl ?_
    refine r_bipush (pc := 13) C dX12_standsOn_13 (v := 9) (by decide) ?_
    refine r_cVpi (As := [.int a1, .int 9]) (st := []) (pc := 15) C (fun _ h => c_X12_of h) kY_X12_of kw_7_27 kw_0_64 kw_7_25 rfl ⟨Nat.le_of_ble_eq_true rfl, Nat.le_of_ble_eq_true rfl⟩ rfl rfl ⟨Nat.zero_le _, Nat.zero_le _⟩ 0 rfl rfl rfl (Nat.le_of_ble_eq_true rfl) dX12_standsOn_15 (fun x2 => ?_)
    refine r_iload_n (pc := 18) C dX12_standsOn_18 2 rfl ?_
    refine r_icmp_gt 48 (pc := 19) C dX12_standsOn_19 (by decide) ?_ ?_
    · refine r_iconst (pc := 48) C dX12_standsOn_48 (v := 0) (by decide) ?_
      exact r_retPZ hR rfl (pc := 49) dX12_standsOn_49
    · refine r_aload_n (pc := 22) C dX12_standsOn_22 0 rfl ?_
      refine r_iload_n (pc := 23) C dX12_standsOn_23 1 rfl ?_
      refine r_bipush (pc := 24) C dX12_standsOn_24 (v := 10) (by decide) ?_
      refine r_cVpi (As := [.int a1, .int 10]) (st := []) (pc := 26) C (fun _ h => c_X12_of h) kY_X12_of kw_7_27 kw_0_64 kw_7_25 rfl ⟨Nat.le_of_ble_eq_true rfl, Nat.le_of_ble_eq_true rfl⟩ rfl rfl ⟨Nat.zero_le _, Nat.zero_le _⟩ 0 rfl rfl rfl (Nat.le_of_ble_eq_true rfl) dX12_standsOn_26 (fun x3 => ?_)
      refine r_iconst (pc := 29) C dX12_standsOn_29 (v := (-1)) (by decide) ?_
      refine r_icmp_eq 44 (pc := 30) C dX12_standsOn_30 (by decide) ?_ ?_
      · refine r_iconst (pc := 44) C dX12_standsOn_44 (v := 1) (by decide) ?_
        refine r_goto 49 (pc := 45) C dX12_standsOn_45 (by decide) ?_
        exact r_retPZ hR rfl (pc := 49) dX12_standsOn_49
      · refine r_aload_n (pc := 33) C dX12_standsOn_33 0 rfl ?_
        refine r_iload_n (pc := 34) C dX12_standsOn_34 1 rfl ?_
        refine r_bipush (pc := 35) C dX12_standsOn_35 (v := 10) (by decide) ?_
        refine r_cVpi (As := [.int a1, .int 10]) (st := []) (pc := 37) C (fun _ h => c_X12_of h) kY_X12_of kw_7_27 kw_0_64 kw_7_25 rfl ⟨Nat.le_of_ble_eq_true rfl, Nat.le_of_ble_eq_true rfl⟩ rfl rfl ⟨Nat.zero_le _, Nat.zero_le _⟩ 0 rfl rfl rfl (Nat.le_of_ble_eq_true rfl) dX12_standsOn_37 (fun x4 => ?_)
        refine r_iload_n (pc := 40) C dX12_standsOn_40 2 rfl ?_
        refine r_icmp_le 48 (pc := 41) C dX12_standsOn_41 (by decide) ?_ ?_
        · refine r_iconst (pc := 48) C dX12_standsOn_48 (v := 0) (by decide) ?_
          exact r_retPZ hR rfl (pc := 49) dX12_standsOn_49
        · refine r_iconst (pc := 44) C dX12_standsOn_44 (v := 1) (by decide) ?_
          refine r_goto 49 (pc := 45) C dX12_standsOn_45 (by decide) ?_
          exact r_retPZ hR rfl (pc := 49) dX12_standsOn_49
abbrev rm_X12_isSuch : Room := { frames := 6, cells := 0, slots := 0, locals := 134 }
theorem kY_X12_isSuch : kY yX12_isSuch cX12_isSuch 3 (some .boolean) 2 := ⟨kw_1_13, kw_7_56, by decide, by decide, by decide +kernel⟩
def f_X12_isSuch (S : MS) (a1 : Int32) (a2 : Int32) : Option (Bool × MS) :=
  (if a2 = 8 then
  chk 4 1177 (
  bp (f_X12_standsOn S a1 (S.2 0 (4 : Int32).toNatClampNeg)) (fun x1 =>
  some (x1, S)))
 else
  (if a2 = 9 then
  bp (f_X12_of S a1 10) (fun x2 =>
  (if x2 = (-1) then
  some (false, S)
 else
  some (true, S)))
 else
  (if a2 = 10 then
  bp (f_X12_of S a1 9) (fun x3 =>
  (if x3 = (-1) then
  some (false, S)
 else
  some (true, S)))
 else
  bw (f_X12_whyNotGood S a1) (fun x4 S5 =>
  (if x4 = (-1) then
  some (true, S5)
 else
  some (false, S5))))))
set_option maxRecDepth 100000 in
set_option maxHeartbeats 4000000 in
theorem c_X12_isSuch {g : KG} {q : Nat → Nat} {S : MS} {a1 : Int32} {a2 : Int32} {r : Bool} {S' : MS} (h : f_X12_isSuch S a1 a2 = some (r, S')) : ∀ l, kM l yX12_isSuch cX12_isSuch 3 (some .boolean) rm_X12_isSuch g [.ref (q 0), .int a1, .int a2] (mw g q S) (mw g q S') (some (.int (b2 r))) 0 0 := by
  refine k_open_z (own := "MarkChainsModel") (by decide) rfl (Nat.le_of_ble_eq_true rfl) (fun X C hR => ?_)
  refine (?_ : jJ X g ((r, S') : Bool × MS) (mw g q S) 0 0 0 [(0, .ref (q 0)), (1, .int a1), (2, .int a2)] [] (f_X12_isSuch S a1 a2)) h
  unfold f_X12_isSuch
  refine r_iload_n (pc := 0) C dX12_isSuch_0 2 rfl ?_
  refine r_case (fun h1_0 => ?_) (fun h1_0 => ?_)
  · refine r_tabIn (off := 27) 28 (pc := 1) C dX12_isSuch_1 h1_0 (by decide) (by decide) (by decide) (by decide) ?_
    refine r_aload_n (pc := 28) C dX12_isSuch_28 0 rfl ?_
    refine r_iload_n (pc := 29) C dX12_isSuch_29 1 rfl ?_
    refine r_aload_n (pc := 30) C dX12_isSuch_30 0 rfl ?_
    refine mg_all (pc := 31) C dX12_isSuch_31 ?_
    refine r_iconst (pc := 34) C dX12_isSuch_34 (v := 4) (by decide) ?_
    refine ml_all (pc := 35) C dX12_isSuch_35 ?_
    refine r_cVpz (As := [.int a1, .int (S.2 0 (4 : Int32).toNatClampNeg)]) (st := []) (pc := 36) C (fun _ h => c_X12_standsOn h) kY_X12_standsOn kw_7_59 kw_0_68 kw_7_57 rfl ⟨Nat.le_of_ble_eq_true rfl, Nat.le_of_ble_eq_true rfl⟩ rfl rfl ⟨Nat.zero_le _, Nat.zero_le _⟩ 0 rfl rfl rfl (Nat.le_of_ble_eq_true rfl) dX12_isSuch_36 (fun x1 => ?_)
    exact r_retWZ hR rfl (pc := 39) dX12_isSuch_39
  · refine r_case (fun h1_1 => ?_) (fun h1_1 => ?_)
    · refine r_tabIn (off := 39) 40 (pc := 1) C dX12_isSuch_1 h1_1 (by decide) (by decide) (by decide) (by decide) ?_
      refine r_aload_n (pc := 40) C dX12_isSuch_40 0 rfl ?_
      refine r_iload_n (pc := 41) C dX12_isSuch_41 1 rfl ?_
      refine r_bipush (pc := 42) C dX12_isSuch_42 (v := 10) (by decide) ?_
      refine r_cVpi (As := [.int a1, .int 10]) (st := []) (pc := 44) C (fun _ h => c_X12_of h) kY_X12_of kw_7_27 kw_0_64 kw_7_25 rfl ⟨Nat.le_of_ble_eq_true rfl, Nat.le_of_ble_eq_true rfl⟩ rfl rfl ⟨Nat.zero_le _, Nat.zero_le _⟩ 0 rfl rfl rfl (Nat.le_of_ble_eq_true rfl) dX12_isSuch_44 (fun x2 => ?_)
      refine r_iconst (pc := 47) C dX12_isSuch_47 (v := (-1)) (by decide) ?_
      refine r_icmp_eq 55 (pc := 48) C dX12_isSuch_48 (by decide) ?_ ?_
      · refine r_iconst (pc := 55) C dX12_isSuch_55 (v := 0) (by decide) ?_
        exact r_retWZ hR rfl (pc := 56) dX12_isSuch_56
      · refine r_iconst (pc := 51) C dX12_isSuch_51 (v := 1) (by decide) ?_
        refine r_goto 56 (pc := 52) C dX12_isSuch_52 (by decide) ?_
        exact r_retWZ hR rfl (pc := 56) dX12_isSuch_56
    · refine r_case (fun h1_2 => ?_) (fun h1_2 => ?_)
      · refine r_tabIn (off := 56) 57 (pc := 1) C dX12_isSuch_1 h1_2 (by decide) (by decide) (by decide) (by decide) ?_
        refine r_aload_n (pc := 57) C dX12_isSuch_57 0 rfl ?_
        refine r_iload_n (pc := 58) C dX12_isSuch_58 1 rfl ?_
        refine r_bipush (pc := 59) C dX12_isSuch_59 (v := 9) (by decide) ?_
        refine r_cVpi (As := [.int a1, .int 9]) (st := []) (pc := 61) C (fun _ h => c_X12_of h) kY_X12_of kw_7_27 kw_0_64 kw_7_25 rfl ⟨Nat.le_of_ble_eq_true rfl, Nat.le_of_ble_eq_true rfl⟩ rfl rfl ⟨Nat.zero_le _, Nat.zero_le _⟩ 0 rfl rfl rfl (Nat.le_of_ble_eq_true rfl) dX12_isSuch_61 (fun x3 => ?_)
        refine r_iconst (pc := 64) C dX12_isSuch_64 (v := (-1)) (by decide) ?_
        refine r_icmp_eq 72 (pc := 65) C dX12_isSuch_65 (by decide) ?_ ?_
        · refine r_iconst (pc := 72) C dX12_isSuch_72 (v := 0) (by decide) ?_
          exact r_retWZ hR rfl (pc := 73) dX12_isSuch_73
        · refine r_iconst (pc := 68) C dX12_isSuch_68 (v := 1) (by decide) ?_
          refine r_goto 73 (pc := 69) C dX12_isSuch_69 (by decide) ?_
          exact r_retWZ hR rfl (pc := 73) dX12_isSuch_73
      · refine r_tabDef 74 (pc := 1) C dX12_isSuch_1 (by decide) (fun j hj => ?_) (by decide) ?_
        · match j, hj with
          | 0, _ => exact Or.inr (lv_neT h1_0 (by decide))
          | 1, _ => exact Or.inr (lv_neT h1_1 (by decide))
          | 2, _ => exact Or.inr (lv_neT h1_2 (by decide))
          | j + 3, hj => exact absurd hj (by simp)
        · refine r_aload_n (pc := 74) C dX12_isSuch_74 0 rfl ?_
          refine r_iload_n (pc := 75) C dX12_isSuch_75 1 rfl ?_
          refine r_cVwi (As := [.int a1]) (st := []) (wf := mw g q) (pc := 76) C (fun _ _ h => c_X12_whyNotGood h) kY_X12_whyNotGood kw_7_15 kw_0_61 kw_7_13 rfl ⟨Nat.le_of_ble_eq_true rfl, Nat.le_of_ble_eq_true rfl⟩ rfl rfl ⟨Nat.zero_le _, Nat.zero_le _⟩ 0 rfl rfl rfl (Nat.le_of_ble_eq_true rfl) dX12_isSuch_76 (fun x4 S5 => ?_)
          refine r_iconst (pc := 79) C dX12_isSuch_79 (v := (-1)) (by decide) ?_
          refine r_icmp_ne 87 (pc := 80) C dX12_isSuch_80 (by decide) ?_ ?_
          · refine r_iconst (pc := 87) C dX12_isSuch_87 (v := 0) (by decide) ?_
            exact r_retWZ hR rfl (pc := 88) dX12_isSuch_88
          · refine r_iconst (pc := 83) C dX12_isSuch_83 (v := 1) (by decide) ?_
            refine r_goto 88 (pc := 84) C dX12_isSuch_84 (by decide) ?_
            exact r_retWZ hR rfl (pc := 88) dX12_isSuch_88
set_option maxRecDepth 100000 in
theorem w_X12_isSuch {S : MS} {a1 : Int32} {a2 : Int32} {r : Bool} {S' : MS} (h : f_X12_isSuch S a1 a2 = some (r, S')) : fI [] [17] S S' := by
  have hS : fI [] [17] S S := fI_rf
  refine (?_ : jf (fI [] [17] S) Prod.snd (f_X12_isSuch S a1 a2)) _ h
  unfold f_X12_isSuch
  refine f_ite ?_ ?_
  · refine f_chk ?_
    refine f_bp (fun x1 => ?_)
    exact f_some hS
  · refine f_ite ?_ ?_
    · refine f_bp (fun x2 => ?_)
      refine f_ite ?_ ?_
      · exact f_some hS
      · exact f_some hS
    · refine f_ite ?_ ?_
      · refine f_bp (fun x3 => ?_)
        refine f_ite ?_ ?_
        · exact f_some hS
        · exact f_some hS
      · refine f_bwS (fun _ _ h => fI_tr hS (w_X12_whyNotGood h) (by decide) (by decide)) (fun x4 S5 hS5 => ?_)
        refine f_ite ?_ ?_
        · exact f_some hS5
        · exact f_some hS5
abbrev rm_X12_is : Room := { frames := 7, cells := 0, slots := 0, locals := 156 }
theorem kY_X12_is : kY yX12_is cX12_is 4 (some .int) 1 := ⟨kw_1_13, kw_7_52, by decide, by decide, by decide +kernel⟩
def L_X12_is_101 (c1 : Int32) (k6 : MS → Int32 → Option (Int32 × MS)) : Nat → MS → Int32 → Int32 → Option (Int32 × MS) := lo3 fun rec4 S3 x1 x2 =>
  chk 3 1177 (
  (if (S3.2 0 (3 : Int32).toNatClampNeg) ≤ x2 then
  k6 S3 x1
 else
  bw (f_X12_isSuch S3 x2 c1) (fun x8 S9 =>
  jn1 (fun (x10 : Int32) =>
  lt (x1 + x10) fun x11 =>
  lt (x2 + 1) fun x12 =>
  rec4 S9 x11 x12) (fun k13 =>
  (if x8 = true then
  k13 1
 else
  k13 0)))))
set_option maxRecDepth 100000 in
set_option maxHeartbeats 4000000 in
theorem l_X12_is_101 {X : KX} {g : KG} {q : Nat → Nat} {res : Int32 × MS} (C : kC X g cX12_is "MarkChainsModel" rm_X12_is 4) (hR : ∀ (pc : Nat) (lv : List (Nat × Value)), decode cX12_is pc = .ok (.ireturn, 1) → jW X g (mw g q res.2) 0 0 pc lv [.int res.1]) (c1 : Int32) (k6 : MS → Int32 → Option (Int32 × MS)) (hk7 : ∀ (S15 : MS) (x16 : Int32), jJ X g res (mw g q S15) 0 0 134 [(2, .int x16)] [] (k6 S15 x16)) : ∀ (n : Nat) (S3 : MS) (x1 : Int32) (x2 : Int32), jJ X g res (mw g q S3) 0 0 101 [(0, .ref (q 0)), (1, .int c1), (2, .int x1), (3, .int x2)] [] (L_X12_is_101 c1 k6 n S3 x1 x2) := by
  refine r_lo3 (fun S3 x1 x2 => mw g q S3) (fun S3 x1 x2 => [(0, .ref (q 0)), (1, .int c1), (2, .int x1), (3, .int x2)]) (fun rec4 ih5 S3 x1 x2 => ?_)
  refine r_iload_n (pc := 101) C dX12_is_101 3 rfl ?_
  refine r_aload_n (pc := 102) C dX12_is_102 0 rfl ?_
  refine mg_all (pc := 103) C dX12_is_103 ?_
  refine r_iconst (pc := 106) C dX12_is_106 (v := 3) (by decide) ?_
  refine ml_all (pc := 107) C dX12_is_107 ?_
  refine r_icmp_ge 134 (pc := 108) C dX12_is_108 (by decide) ?_ ?_
  · refine r_sub (lv' := [(2, .int x1)]) [2] rfl ?_
    exact hk7 S3 x1
  · refine r_iload_n (pc := 111) C dX12_is_111 2 rfl ?_
    refine r_aload_n (pc := 112) C dX12_is_112 0 rfl ?_
    refine r_iload_n (pc := 113) C dX12_is_113 3 rfl ?_
    refine r_iload_n (pc := 114) C dX12_is_114 1 rfl ?_
    refine r_cVwz (As := [.int x2, .int c1]) (st := [.int x1]) (wf := mw g q) (pc := 115) C (fun _ _ h => c_X12_isSuch h) kY_X12_isSuch kw_7_55 kw_0_67 kw_7_53 rfl ⟨Nat.le_of_ble_eq_true rfl, Nat.le_of_ble_eq_true rfl⟩ rfl rfl ⟨Nat.zero_le _, Nat.zero_le _⟩ 0 rfl rfl rfl (Nat.le_of_ble_eq_true rfl) dX12_is_115 (fun x8 S9 => ?_)
    refine r_jn1 126 (fun (x10 : Int32) => mw g q S9) (fun (x10 : Int32) => [(0, .ref (q 0)), (1, .int c1), (3, .int x2)]) (fun (x10 : Int32) => [.int x10, .int x1]) (fun x10 => ?_) (fun k13 hk14 => ?_)
    · refine r_iadd (pc := 126) C dX12_is_126 ?_
      refine r_istoreV_n (pc := 127) C dX12_is_127 (lv' := fun x11 => [(0, .ref (q 0)), (1, .int c1), (2, .int x11), (3, .int x2)]) (by decide) [1, 2, 0, 3] (fun _ => rfl) (fun x11 => ?_)
      refine r_iinc (pc := 128) C dX12_is_128 (v := 1) (lv' := fun x12 => [(0, .ref (q 0)), (1, .int c1), (2, .int x11), (3, .int x12)]) 3 rfl (by decide) (by decide) [1, 2, 3, 0] (fun _ => rfl) (fun x12 => ?_)
      refine r_goto 101 (pc := 131) C dX12_is_131 (by decide) ?_
      exact ih5 S9 x11 x12
    · refine r_ifb_eq 125 (pc := 118) C dX12_is_118 (by decide) ?_ ?_
      · refine r_iconst (pc := 125) C dX12_is_125 (v := 0) (by decide) ?_
        refine r_sub (lv' := [(0, .ref (q 0)), (1, .int c1), (3, .int x2)]) [0, 1, 3] rfl ?_
        exact hk14 0
      · refine r_iconst (pc := 121) C dX12_is_121 (v := 1) (by decide) ?_
        refine r_goto 126 (pc := 122) C dX12_is_122 (by decide) ?_
        refine r_sub (lv' := [(0, .ref (q 0)), (1, .int c1), (3, .int x2)]) [0, 1, 3] rfl ?_
        exact hk14 1
set_option maxRecDepth 100000 in
theorem v_X12_is_101 {S0 : MS} {c1 : Int32} {k6 : MS → Int32 → Option (Int32 × MS)} (hk7 : ∀ (S15 : MS) (x16 : Int32), (fI [] [17] S0) S15 → jf (fI [] [17] S0) Prod.snd (k6 S15 x16)) : ∀ (n : Nat) (S3 : MS) (x1 : Int32) (x2 : Int32), (fI [] [17] S0) S3 → jf (fI [] [17] S0) Prod.snd (L_X12_is_101 c1 k6 n S3 x1 x2) := by
  refine f_lo3 (I := (fI [] [17] S0)) (fun S3 x1 x2 => S3) (fun rec4 ih5 S3 x1 x2 hS3 => ?_)
  refine f_chk ?_
  refine f_ite ?_ ?_
  · exact hk7 S3 x1 hS3
  · refine f_bwS (fun _ _ h => fI_tr hS3 (w_X12_isSuch h) (by decide) (by decide)) (fun x8 S9 hS9 => ?_)
    refine f_jm1 hS9 (fun x10 hS9 => ?_) (fun k13 hk14 => ?_)
    · refine f_lt (fun x11 => ?_)
      refine f_lt (fun x12 => ?_)
      exact ih5 S9 x11 x12 hS9
    · refine f_ite ?_ ?_
      · exact hk14 1 hS9
      · exact hk14 0 hS9
def f_X12_is (S : MS) (a1 : Int32) : Option (Int32 × MS) :=
  jn0 (L_X12_is_101 a1 (fun S17 x18 =>
  some (x18, S17)) FU S 0 0) (fun k19 =>
  jn0 (chk a1 1177 (
  some (S.2 0 a1.toNatClampNeg, S))) (fun k21 =>
  (if a1 = 0 then
  k21
 else
  (if a1 = 1 then
  k21
 else
  (if a1 = 2 then
  k21
 else
  (if a1 = 3 then
  k21
 else
  (if a1 = 4 then
  chk 725 1177 (
  some (S.2 0 (725 : Int32).toNatClampNeg, S))
 else
  (if a1 = 5 then
  chk 4 1177 (
  some (S.2 0 (4 : Int32).toNatClampNeg, S))
 else
  (if a1 = 6 then
  some (S.1 3, S)
 else
  (if a1 = 7 then
  some (S.1 5, S)
 else
  (if a1 = 8 then
  k19
 else
  (if a1 = 9 then
  k19
 else
  (if a1 = 10 then
  k19
 else
  (if a1 = 11 then
  k19
 else
  some ((-1), S)))))))))))))))
set_option maxRecDepth 100000 in
set_option maxHeartbeats 4000000 in
theorem c_X12_is {g : KG} {q : Nat → Nat} {S : MS} {a1 : Int32} {r : Int32} {S' : MS} (h : f_X12_is S a1 = some (r, S')) : ∀ l, kM l yX12_is cX12_is 4 (some .int) rm_X12_is g [.ref (q 0), .int a1] (mw g q S) (mw g q S') (some (.int r)) 0 0 := by
  refine k_open_i (own := "MarkChainsModel") (by decide) rfl (Nat.le_of_ble_eq_true rfl) (fun X C hR => ?_)
  refine (?_ : jJ X g ((r, S') : Int32 × MS) (mw g q S) 0 0 0 [(0, .ref (q 0)), (1, .int a1)] [] (f_X12_is S a1)) h
  unfold f_X12_is
  refine r_iload_n (pc := 0) C dX12_is_0 1 rfl ?_
  refine r_jn0 97 (mw g q S) ([(0, .ref (q 0)), (1, .int a1)]) ([]) ?_ (fun k19 hk20 => ?_)
  · refine r_iconst (pc := 97) C dX12_is_97 (v := 0) (by decide) ?_
    refine r_istore_n (pc := 98) C dX12_is_98 (lv' := [(0, .ref (q 0)), (1, .int a1), (2, .int 0)]) (by decide) [1, 2, 0] rfl ?_
    refine r_iconst (pc := 99) C dX12_is_99 (v := 0) (by decide) ?_
    refine r_istore_n (pc := 100) C dX12_is_100 (lv' := [(0, .ref (q 0)), (1, .int a1), (2, .int 0), (3, .int 0)]) (by decide) [1, 2, 3, 0] rfl ?_
    refine l_X12_is_101 C hR a1 _ (fun S17 x18 => ?_) FU S 0 0
    refine r_iload_n (pc := 134) C dX12_is_134 0 rfl ?_
    exact r_retWI (wf := mw g q) hR (pc := 135) dX12_is_135
  · refine r_jn0 64 (mw g q S) ([(0, .ref (q 0)), (1, .int a1)]) ([]) ?_ (fun k21 hk22 => ?_)
    · refine r_aload_n (pc := 64) C dX12_is_64 0 rfl ?_
      refine mg_all (pc := 65) C dX12_is_65 ?_
      refine r_iload_n (pc := 68) C dX12_is_68 1 rfl ?_
      refine ml_all (pc := 69) C dX12_is_69 ?_
      exact r_retWI (wf := mw g q) hR (pc := 70) dX12_is_70
    · refine r_case (fun h1_0 => ?_) (fun h1_0 => ?_)
      · refine r_tabIn (off := 63) 64 (pc := 1) C dX12_is_1 h1_0 (by decide) (by decide) (by decide) (by decide) ?_
        exact hk22
      · refine r_case (fun h1_1 => ?_) (fun h1_1 => ?_)
        · refine r_tabIn (off := 63) 64 (pc := 1) C dX12_is_1 h1_1 (by decide) (by decide) (by decide) (by decide) ?_
          exact hk22
        · refine r_case (fun h1_2 => ?_) (fun h1_2 => ?_)
          · refine r_tabIn (off := 63) 64 (pc := 1) C dX12_is_1 h1_2 (by decide) (by decide) (by decide) (by decide) ?_
            exact hk22
          · refine r_case (fun h1_3 => ?_) (fun h1_3 => ?_)
            · refine r_tabIn (off := 63) 64 (pc := 1) C dX12_is_1 h1_3 (by decide) (by decide) (by decide) (by decide) ?_
              exact hk22
            · refine r_case (fun h1_4 => ?_) (fun h1_4 => ?_)
              · refine r_tabIn (off := 70) 71 (pc := 1) C dX12_is_1 h1_4 (by decide) (by decide) (by decide) (by decide) ?_
                refine r_aload_n (pc := 71) C dX12_is_71 0 rfl ?_
                refine mg_all (pc := 72) C dX12_is_72 ?_
                refine r_sipush (pc := 75) C dX12_is_75 (v := 725) (by decide) ?_
                refine ml_all (pc := 78) C dX12_is_78 ?_
                exact r_retWI (wf := mw g q) hR (pc := 79) dX12_is_79
              · refine r_case (fun h1_5 => ?_) (fun h1_5 => ?_)
                · refine r_tabIn (off := 79) 80 (pc := 1) C dX12_is_1 h1_5 (by decide) (by decide) (by decide) (by decide) ?_
                  refine r_aload_n (pc := 80) C dX12_is_80 0 rfl ?_
                  refine mg_all (pc := 81) C dX12_is_81 ?_
                  refine r_iconst (pc := 84) C dX12_is_84 (v := 4) (by decide) ?_
                  refine ml_all (pc := 85) C dX12_is_85 ?_
                  exact r_retWI (wf := mw g q) hR (pc := 86) dX12_is_86
                · refine r_case (fun h1_6 => ?_) (fun h1_6 => ?_)
                  · refine r_tabIn (off := 86) 87 (pc := 1) C dX12_is_1 h1_6 (by decide) (by decide) (by decide) (by decide) ?_
                    refine r_aload_n (pc := 87) C dX12_is_87 0 rfl ?_
                    refine mg_deeds (pc := 88) C dX12_is_88 ?_
                    exact r_retWI (wf := mw g q) hR (pc := 91) dX12_is_91
                  · refine r_case (fun h1_7 => ?_) (fun h1_7 => ?_)
                    · refine r_tabIn (off := 91) 92 (pc := 1) C dX12_is_1 h1_7 (by decide) (by decide) (by decide) (by decide) ?_
                      refine r_aload_n (pc := 92) C dX12_is_92 0 rfl ?_
                      refine mg_taped (pc := 93) C dX12_is_93 ?_
                      exact r_retWI (wf := mw g q) hR (pc := 96) dX12_is_96
                    · refine r_case (fun h1_8 => ?_) (fun h1_8 => ?_)
                      · refine r_tabIn (off := 96) 97 (pc := 1) C dX12_is_1 h1_8 (by decide) (by decide) (by decide) (by decide) ?_
                        exact hk20
                      · refine r_case (fun h1_9 => ?_) (fun h1_9 => ?_)
                        · refine r_tabIn (off := 96) 97 (pc := 1) C dX12_is_1 h1_9 (by decide) (by decide) (by decide) (by decide) ?_
                          exact hk20
                        · refine r_case (fun h1_10 => ?_) (fun h1_10 => ?_)
                          · refine r_tabIn (off := 96) 97 (pc := 1) C dX12_is_1 h1_10 (by decide) (by decide) (by decide) (by decide) ?_
                            exact hk20
                          · refine r_case (fun h1_11 => ?_) (fun h1_11 => ?_)
                            · refine r_tabIn (off := 96) 97 (pc := 1) C dX12_is_1 h1_11 (by decide) (by decide) (by decide) (by decide) ?_
                              exact hk20
                            · refine r_tabDef 136 (pc := 1) C dX12_is_1 (by decide) (fun j hj => ?_) (by decide) ?_
                              · match j, hj with
                                | 0, _ => exact Or.inr (lv_neT h1_0 (by decide))
                                | 1, _ => exact Or.inr (lv_neT h1_1 (by decide))
                                | 2, _ => exact Or.inr (lv_neT h1_2 (by decide))
                                | 3, _ => exact Or.inr (lv_neT h1_3 (by decide))
                                | 4, _ => exact Or.inr (lv_neT h1_4 (by decide))
                                | 5, _ => exact Or.inr (lv_neT h1_5 (by decide))
                                | 6, _ => exact Or.inr (lv_neT h1_6 (by decide))
                                | 7, _ => exact Or.inr (lv_neT h1_7 (by decide))
                                | 8, _ => exact Or.inr (lv_neT h1_8 (by decide))
                                | 9, _ => exact Or.inr (lv_neT h1_9 (by decide))
                                | 10, _ => exact Or.inr (lv_neT h1_10 (by decide))
                                | 11, _ => exact Or.inr (lv_neT h1_11 (by decide))
                                | j + 12, hj => exact absurd hj (by simp)
                              · refine r_iconst (pc := 136) C dX12_is_136 (v := (-1)) (by decide) ?_
                                exact r_retWI (wf := mw g q) hR (pc := 137) dX12_is_137
set_option maxRecDepth 100000 in
theorem w_X12_is {S : MS} {a1 : Int32} {r : Int32} {S' : MS} (h : f_X12_is S a1 = some (r, S')) : fI [] [17] S S' := by
  have hS : fI [] [17] S S := fI_rf
  refine (?_ : jf (fI [] [17] S) Prod.snd (f_X12_is S a1)) _ h
  unfold f_X12_is
  refine f_jm0 hS (fun  hS => ?_) (fun k19 hk20 => ?_)
  · refine v_X12_is_101 (fun S17 x18 hS17 => ?_) FU S 0 0 hS
    exact f_some hS17
  · refine f_jm0 hS (fun  hS => ?_) (fun k21 hk22 => ?_)
    · refine f_chk ?_
      exact f_some hS
    · refine f_ite ?_ ?_
      · exact hk22 hS
      · refine f_ite ?_ ?_
        · exact hk22 hS
        · refine f_ite ?_ ?_
          · exact hk22 hS
          · refine f_ite ?_ ?_
            · exact hk22 hS
            · refine f_ite ?_ ?_
              · refine f_chk ?_
                exact f_some hS
              · refine f_ite ?_ ?_
                · refine f_chk ?_
                  exact f_some hS
                · refine f_ite ?_ ?_
                  · exact f_some hS
                  · refine f_ite ?_ ?_
                    · exact f_some hS
                    · refine f_ite ?_ ?_
                      · exact hk20 hS
                      · refine f_ite ?_ ?_
                        · exact hk20 hS
                        · refine f_ite ?_ ?_
                          · exact hk20 hS
                          · refine f_ite ?_ ?_
                            · exact hk20 hS
                            · exact f_some hS
abbrev rm_X12_ratify : Room := { frames := 6, cells := 0, slots := 0, locals := 134 }
theorem kY_X12_ratify : kY yX12_ratify cX12_ratify 2 (some .int) 1 := ⟨kw_1_13, kw_7_64, by decide, by decide, by decide +kernel⟩
def f_X12_ratify (S : MS) (a1 : Int32) : Option (Int32 × MS) :=
  bp (f_X12_isMark S a1) (fun x1 =>
  (if x1 = true then
  bp (f_X12_of S a1 9) (fun x2 =>
  (if x2 = (-1) then
  bp (f_X12_of S a1 10) (fun x3 =>
  (if x3 = (-1) then
  bw (f_X12_whyNotGood S a1) (fun x4 S5 =>
  (if x4 = (-1) then
  bp (f_X12_deed S5) (fun S6 =>
  bp (f_X12_markAt a1) (fun x7 =>
  chk 4 1177 (
  chk (x7 + 9) 1177 (lt (sa S6 0 (upd (S6.2 0) (x7 + 9).toNatClampNeg (S6.2 0 (4 : Int32).toNatClampNeg))) fun S8 =>
  chk 4 1177 (
  some (S8.2 0 (4 : Int32).toNatClampNeg, S8))))))
 else
  some ((-5), S5)))
 else
  some ((-4), S)))
 else
  some ((-3), S)))
 else
  some ((-2), S)))
set_option maxRecDepth 100000 in
set_option maxHeartbeats 4000000 in
theorem c_X12_ratify {g : KG} {q : Nat → Nat} {S : MS} {a1 : Int32} {r : Int32} {S' : MS} (h : f_X12_ratify S a1 = some (r, S')) : ∀ l, kM l yX12_ratify cX12_ratify 2 (some .int) rm_X12_ratify g [.ref (q 0), .int a1] (mw g q S) (mw g q S') (some (.int r)) 0 0 := by
  refine k_open_i (own := "MarkChainsModel") (by decide) rfl (Nat.le_of_ble_eq_true rfl) (fun X C hR => ?_)
  refine (?_ : jJ X g ((r, S') : Int32 × MS) (mw g q S) 0 0 0 [(0, .ref (q 0)), (1, .int a1)] [] (f_X12_ratify S a1)) h
  unfold f_X12_ratify
  refine r_aload_n (pc := 0) C dX12_ratify_0 0 rfl ?_
  refine r_iload_n (pc := 1) C dX12_ratify_1 1 rfl ?_
  refine r_cVpz (As := [.int a1]) (st := []) (pc := 2) C (fun _ h => c_X12_isMark h) kY_X12_isMark kw_7_11 kw_0_60 kw_7_9 rfl ⟨Nat.le_of_ble_eq_true rfl, Nat.le_of_ble_eq_true rfl⟩ rfl rfl ⟨Nat.zero_le _, Nat.zero_le _⟩ 0 rfl rfl rfl (Nat.le_of_ble_eq_true rfl) dX12_ratify_2 (fun x1 => ?_)
  refine r_ifb_ne 11 (pc := 5) C dX12_ratify_5 (by decide) ?_ ?_
  · refine r_aload_n (pc := 11) C dX12_ratify_11 0 rfl ?_
    refine r_iload_n (pc := 12) C dX12_ratify_12 1 rfl ?_
    refine r_bipush (pc := 13) C dX12_ratify_13 (v := 9) (by decide) ?_
    refine r_cVpi (As := [.int a1, .int 9]) (st := []) (pc := 15) C (fun _ h => c_X12_of h) kY_X12_of kw_7_27 kw_0_64 kw_7_25 rfl ⟨Nat.le_of_ble_eq_true rfl, Nat.le_of_ble_eq_true rfl⟩ rfl rfl ⟨Nat.zero_le _, Nat.zero_le _⟩ 0 rfl rfl rfl (Nat.le_of_ble_eq_true rfl) dX12_ratify_15 (fun x2 => ?_)
    refine r_iconst (pc := 18) C dX12_ratify_18 (v := (-1)) (by decide) ?_
    refine r_icmp_eq 25 (pc := 19) C dX12_ratify_19 (by decide) ?_ ?_
    · refine r_aload_n (pc := 25) C dX12_ratify_25 0 rfl ?_
      refine r_iload_n (pc := 26) C dX12_ratify_26 1 rfl ?_
      refine r_bipush (pc := 27) C dX12_ratify_27 (v := 10) (by decide) ?_
      refine r_cVpi (As := [.int a1, .int 10]) (st := []) (pc := 29) C (fun _ h => c_X12_of h) kY_X12_of kw_7_27 kw_0_64 kw_7_25 rfl ⟨Nat.le_of_ble_eq_true rfl, Nat.le_of_ble_eq_true rfl⟩ rfl rfl ⟨Nat.zero_le _, Nat.zero_le _⟩ 0 rfl rfl rfl (Nat.le_of_ble_eq_true rfl) dX12_ratify_29 (fun x3 => ?_)
      refine r_iconst (pc := 32) C dX12_ratify_32 (v := (-1)) (by decide) ?_
      refine r_icmp_eq 39 (pc := 33) C dX12_ratify_33 (by decide) ?_ ?_
      · refine r_aload_n (pc := 39) C dX12_ratify_39 0 rfl ?_
        refine r_iload_n (pc := 40) C dX12_ratify_40 1 rfl ?_
        refine r_cVwi (As := [.int a1]) (st := []) (wf := mw g q) (pc := 41) C (fun _ _ h => c_X12_whyNotGood h) kY_X12_whyNotGood kw_7_15 kw_0_61 kw_7_13 rfl ⟨Nat.le_of_ble_eq_true rfl, Nat.le_of_ble_eq_true rfl⟩ rfl rfl ⟨Nat.zero_le _, Nat.zero_le _⟩ 0 rfl rfl rfl (Nat.le_of_ble_eq_true rfl) dX12_ratify_41 (fun x4 S5 => ?_)
        refine r_iconst (pc := 44) C dX12_ratify_44 (v := (-1)) (by decide) ?_
        refine r_icmp_eq 51 (pc := 45) C dX12_ratify_45 (by decide) ?_ ?_
        · refine r_aload_n (pc := 51) C dX12_ratify_51 0 rfl ?_
          refine r_cVwv (As := []) (st := []) (wf := mw g q) (pc := 52) C (fun _ h => c_X12_deed h) kY_X12_deed kw_6_191 kw_0_50 kw_6_189 rfl ⟨Nat.le_of_ble_eq_true rfl, Nat.le_of_ble_eq_true rfl⟩ rfl rfl ⟨Nat.zero_le _, Nat.zero_le _⟩ 0 rfl rfl rfl (Nat.le_of_ble_eq_true rfl) dX12_ratify_52 (fun S6 => ?_)
          refine r_aload_n (pc := 55) C dX12_ratify_55 0 rfl ?_
          refine mg_all (pc := 56) C dX12_ratify_56 ?_
          refine r_iload_n (pc := 59) C dX12_ratify_59 1 rfl ?_
          refine r_cSpi (As := [.int a1]) (st := [.ref (q 1)]) (pc := 60) C (fun _ h => c_X12_markAt h) kY_X12_markAt kw_6_178 kw_6_177 rfl ⟨Nat.le_of_ble_eq_true rfl, Nat.le_of_ble_eq_true rfl⟩ rfl rfl ⟨Nat.zero_le _, Nat.zero_le _⟩ rfl (Nat.le_of_ble_eq_true rfl) dX12_ratify_60 (fun x7 => ?_)
          refine r_bipush (pc := 63) C dX12_ratify_63 (v := 9) (by decide) ?_
          refine r_iadd (pc := 65) C dX12_ratify_65 ?_
          refine r_aload_n (pc := 66) C dX12_ratify_66 0 rfl ?_
          refine mg_all (pc := 67) C dX12_ratify_67 ?_
          refine r_iconst (pc := 70) C dX12_ratify_70 (v := 4) (by decide) ?_
          refine ml_all (pc := 71) C dX12_ratify_71 ?_
          refine ms_all (pc := 72) C dX12_ratify_72 (fun S8 => ?_)
          refine r_aload_n (pc := 73) C dX12_ratify_73 0 rfl ?_
          refine mg_all (pc := 74) C dX12_ratify_74 ?_
          refine r_iconst (pc := 77) C dX12_ratify_77 (v := 4) (by decide) ?_
          refine ml_all (pc := 78) C dX12_ratify_78 ?_
          exact r_retWI (wf := mw g q) hR (pc := 79) dX12_ratify_79
        · refine r_bipush (pc := 48) C dX12_ratify_48 (v := (-5)) (by decide) ?_
          exact r_retWI (wf := mw g q) hR (pc := 50) dX12_ratify_50
      · refine r_bipush (pc := 36) C dX12_ratify_36 (v := (-4)) (by decide) ?_
        exact r_retWI (wf := mw g q) hR (pc := 38) dX12_ratify_38
    · refine r_bipush (pc := 22) C dX12_ratify_22 (v := (-3)) (by decide) ?_
      exact r_retWI (wf := mw g q) hR (pc := 24) dX12_ratify_24
  · refine r_bipush (pc := 8) C dX12_ratify_8 (v := (-2)) (by decide) ?_
    exact r_retWI (wf := mw g q) hR (pc := 10) dX12_ratify_10
set_option maxRecDepth 100000 in
theorem w_X12_ratify {S : MS} {a1 : Int32} {r : Int32} {S' : MS} (h : f_X12_ratify S a1 = some (r, S')) : fI [3] [0, 1, 17] S S' := by
  have hS : fI [3] [0, 1, 17] S S := fI_rf
  refine (?_ : jf (fI [3] [0, 1, 17] S) Prod.snd (f_X12_ratify S a1)) _ h
  unfold f_X12_ratify
  refine f_bp (fun x1 => ?_)
  refine f_ite ?_ ?_
  · refine f_bp (fun x2 => ?_)
    refine f_ite ?_ ?_
    · refine f_bp (fun x3 => ?_)
      refine f_ite ?_ ?_
      · refine f_bwS (fun _ _ h => fI_tr hS (w_X12_whyNotGood h) (by decide) (by decide)) (fun x4 S5 hS5 => ?_)
        refine f_ite ?_ ?_
        · refine f_bpS (fun _ h => fI_tr hS5 (w_X12_deed h) (by decide) (by decide)) (fun S6 hS6 => ?_)
          refine f_bp (fun x7 => ?_)
          refine f_chk ?_
          refine f_chk (f_ltS (fI_sa hS6 (by decide)) (fun S8 hS8 => ?_))
          refine f_chk ?_
          exact f_some hS8
        · exact f_some hS5
      · exact f_some hS
    · exact f_some hS
  · exact f_some hS
abbrev rm_X12_strike : Room := { frames := 2, cells := 0, slots := 0, locals := 43 }
theorem kY_X12_strike : kY yX12_strike cX12_strike 2 (some .int) 1 := ⟨kw_1_13, kw_7_68, by decide, by decide, by decide +kernel⟩
def f_X12_strike (S : MS) (a1 : Int32) : Option (Int32 × MS) :=
  bp (f_X12_isMark S a1) (fun x1 =>
  (if x1 = true then
  bp (f_X12_of S a1 10) (fun x2 =>
  (if x2 = (-1) then
  bp (f_X12_deed S) (fun S3 =>
  bp (f_X12_markAt a1) (fun x4 =>
  chk 4 1177 (
  chk (x4 + 10) 1177 (lt (sa S3 0 (upd (S3.2 0) (x4 + 10).toNatClampNeg (S3.2 0 (4 : Int32).toNatClampNeg))) fun S5 =>
  chk 4 1177 (
  some (S5.2 0 (4 : Int32).toNatClampNeg, S5))))))
 else
  some ((-3), S)))
 else
  some ((-2), S)))
set_option maxRecDepth 100000 in
set_option maxHeartbeats 4000000 in
theorem c_X12_strike {g : KG} {q : Nat → Nat} {S : MS} {a1 : Int32} {r : Int32} {S' : MS} (h : f_X12_strike S a1 = some (r, S')) : ∀ l, kM l yX12_strike cX12_strike 2 (some .int) rm_X12_strike g [.ref (q 0), .int a1] (mw g q S) (mw g q S') (some (.int r)) 0 0 := by
  refine k_open_i (own := "MarkChainsModel") (by decide) rfl (Nat.le_of_ble_eq_true rfl) (fun X C hR => ?_)
  refine (?_ : jJ X g ((r, S') : Int32 × MS) (mw g q S) 0 0 0 [(0, .ref (q 0)), (1, .int a1)] [] (f_X12_strike S a1)) h
  unfold f_X12_strike
  refine r_aload_n (pc := 0) C dX12_strike_0 0 rfl ?_
  refine r_iload_n (pc := 1) C dX12_strike_1 1 rfl ?_
  refine r_cVpz (As := [.int a1]) (st := []) (pc := 2) C (fun _ h => c_X12_isMark h) kY_X12_isMark kw_7_11 kw_0_60 kw_7_9 rfl ⟨Nat.le_of_ble_eq_true rfl, Nat.le_of_ble_eq_true rfl⟩ rfl rfl ⟨Nat.zero_le _, Nat.zero_le _⟩ 0 rfl rfl rfl (Nat.le_of_ble_eq_true rfl) dX12_strike_2 (fun x1 => ?_)
  refine r_ifb_ne 11 (pc := 5) C dX12_strike_5 (by decide) ?_ ?_
  · refine r_aload_n (pc := 11) C dX12_strike_11 0 rfl ?_
    refine r_iload_n (pc := 12) C dX12_strike_12 1 rfl ?_
    refine r_bipush (pc := 13) C dX12_strike_13 (v := 10) (by decide) ?_
    refine r_cVpi (As := [.int a1, .int 10]) (st := []) (pc := 15) C (fun _ h => c_X12_of h) kY_X12_of kw_7_27 kw_0_64 kw_7_25 rfl ⟨Nat.le_of_ble_eq_true rfl, Nat.le_of_ble_eq_true rfl⟩ rfl rfl ⟨Nat.zero_le _, Nat.zero_le _⟩ 0 rfl rfl rfl (Nat.le_of_ble_eq_true rfl) dX12_strike_15 (fun x2 => ?_)
    refine r_iconst (pc := 18) C dX12_strike_18 (v := (-1)) (by decide) ?_
    refine r_icmp_eq 25 (pc := 19) C dX12_strike_19 (by decide) ?_ ?_
    · refine r_aload_n (pc := 25) C dX12_strike_25 0 rfl ?_
      refine r_cVwv (As := []) (st := []) (wf := mw g q) (pc := 26) C (fun _ h => c_X12_deed h) kY_X12_deed kw_6_191 kw_0_50 kw_6_189 rfl ⟨Nat.le_of_ble_eq_true rfl, Nat.le_of_ble_eq_true rfl⟩ rfl rfl ⟨Nat.zero_le _, Nat.zero_le _⟩ 0 rfl rfl rfl (Nat.le_of_ble_eq_true rfl) dX12_strike_26 (fun S3 => ?_)
      refine r_aload_n (pc := 29) C dX12_strike_29 0 rfl ?_
      refine mg_all (pc := 30) C dX12_strike_30 ?_
      refine r_iload_n (pc := 33) C dX12_strike_33 1 rfl ?_
      refine r_cSpi (As := [.int a1]) (st := [.ref (q 1)]) (pc := 34) C (fun _ h => c_X12_markAt h) kY_X12_markAt kw_6_178 kw_6_177 rfl ⟨Nat.le_of_ble_eq_true rfl, Nat.le_of_ble_eq_true rfl⟩ rfl rfl ⟨Nat.zero_le _, Nat.zero_le _⟩ rfl (Nat.le_of_ble_eq_true rfl) dX12_strike_34 (fun x4 => ?_)
      refine r_bipush (pc := 37) C dX12_strike_37 (v := 10) (by decide) ?_
      refine r_iadd (pc := 39) C dX12_strike_39 ?_
      refine r_aload_n (pc := 40) C dX12_strike_40 0 rfl ?_
      refine mg_all (pc := 41) C dX12_strike_41 ?_
      refine r_iconst (pc := 44) C dX12_strike_44 (v := 4) (by decide) ?_
      refine ml_all (pc := 45) C dX12_strike_45 ?_
      refine ms_all (pc := 46) C dX12_strike_46 (fun S5 => ?_)
      refine r_aload_n (pc := 47) C dX12_strike_47 0 rfl ?_
      refine mg_all (pc := 48) C dX12_strike_48 ?_
      refine r_iconst (pc := 51) C dX12_strike_51 (v := 4) (by decide) ?_
      refine ml_all (pc := 52) C dX12_strike_52 ?_
      exact r_retWI (wf := mw g q) hR (pc := 53) dX12_strike_53
    · refine r_bipush (pc := 22) C dX12_strike_22 (v := (-3)) (by decide) ?_
      exact r_retWI (wf := mw g q) hR (pc := 24) dX12_strike_24
  · refine r_bipush (pc := 8) C dX12_strike_8 (v := (-2)) (by decide) ?_
    exact r_retWI (wf := mw g q) hR (pc := 10) dX12_strike_10
set_option maxRecDepth 100000 in
theorem w_X12_strike {S : MS} {a1 : Int32} {r : Int32} {S' : MS} (h : f_X12_strike S a1 = some (r, S')) : fI [3] [0, 1] S S' := by
  have hS : fI [3] [0, 1] S S := fI_rf
  refine (?_ : jf (fI [3] [0, 1] S) Prod.snd (f_X12_strike S a1)) _ h
  unfold f_X12_strike
  refine f_bp (fun x1 => ?_)
  refine f_ite ?_ ?_
  · refine f_bp (fun x2 => ?_)
    refine f_ite ?_ ?_
    · refine f_bpS (fun _ h => fI_tr hS (w_X12_deed h) (by decide) (by decide)) (fun S3 hS3 => ?_)
      refine f_bp (fun x4 => ?_)
      refine f_chk ?_
      refine f_chk (f_ltS (fI_sa hS3 (by decide)) (fun S5 hS5 => ?_))
      refine f_chk ?_
      exact f_some hS5
    · exact f_some hS
  · exact f_some hS
abbrev rm_X12_isAthlete : Room := { frames := 1, cells := 0, slots := 0, locals := 22 }
theorem kY_X12_isAthlete : kY yX12_isAthlete cX12_isAthlete 2 (some .boolean) 1 := ⟨kw_1_13, kw_7_76, by decide, by decide, by decide +kernel⟩
def f_X12_isAthlete (S : MS) (a1 : Int32) : Option (Bool) :=
  chk 2 1177 (
  bp (f_X12_isIn a1 0 ((S.2 0 (2 : Int32).toNatClampNeg) - 1)) (fun x1 =>
  some x1))
set_option maxRecDepth 100000 in
set_option maxHeartbeats 4000000 in
theorem c_X12_isAthlete {g : KG} {q : Nat → Nat} {S : MS} {a1 : Int32} {r : Bool} (h : f_X12_isAthlete S a1 = some r) : ∀ l, kM l yX12_isAthlete cX12_isAthlete 2 (some .boolean) rm_X12_isAthlete g [.ref (q 0), .int a1] (mw g q S) (mw g q S) (some (.int (b2 r))) 0 0 := by
  refine k_open_z (own := "MarkChainsModel") (by decide) rfl (Nat.le_of_ble_eq_true rfl) (fun X C hR => ?_)
  refine (?_ : jJ X g (r : Bool) (mw g q S) 0 0 0 [(0, .ref (q 0)), (1, .int a1)] [] (f_X12_isAthlete S a1)) h
  unfold f_X12_isAthlete
  refine r_iload_n (pc := 0) C dX12_isAthlete_0 1 rfl ?_
  refine r_iconst (pc := 1) C dX12_isAthlete_1 (v := 0) (by decide) ?_
  refine r_aload_n (pc := 2) C dX12_isAthlete_2 0 rfl ?_
  refine mg_all (pc := 3) C dX12_isAthlete_3 ?_
  refine r_iconst (pc := 6) C dX12_isAthlete_6 (v := 2) (by decide) ?_
  refine ml_all (pc := 7) C dX12_isAthlete_7 ?_
  refine r_iconst (pc := 8) C dX12_isAthlete_8 (v := 1) (by decide) ?_
  refine r_isub (pc := 9) C dX12_isAthlete_9 ?_
  refine r_cSpz (As := [.int a1, .int 0, .int ((S.2 0 (2 : Int32).toNatClampNeg) - 1)]) (st := []) (pc := 10) C (fun _ h => c_X12_isIn h) kY_X12_isIn kw_6_124 kw_6_123 rfl ⟨Nat.le_of_ble_eq_true rfl, Nat.le_of_ble_eq_true rfl⟩ rfl rfl ⟨Nat.zero_le _, Nat.zero_le _⟩ rfl (Nat.le_of_ble_eq_true rfl) dX12_isAthlete_10 (fun x1 => ?_)
  exact r_retPZ hR rfl (pc := 13) dX12_isAthlete_13
abbrev rm_X12_ban : Room := { frames := 2, cells := 0, slots := 0, locals := 43 }
theorem kY_X12_ban : kY yX12_ban cX12_ban 6 (some .int) 3 := ⟨kw_1_13, kw_7_72, by decide, by decide, by decide +kernel⟩
def L_X12_ban_25 (c1 : Int32) (c2 : Int32) (c3 : Int32) (k8 : MS → Int32 → Option (Int32 × MS)) : Nat → MS → Int32 → Int32 → Option (Int32 × MS) := lo3 fun rec6 S5 x3 x4 =>
  chk 3 1177 (
  (if (S5.2 0 (3 : Int32).toNatClampNeg) ≤ x4 then
  k8 S5 x3
 else
  bp (f_X12_of S5 x4 1) (fun x10 =>
  (if x10 = c1 then
  bp (f_X12_of S5 x4 3) (fun x12 =>
  bp (f_X12_isIn x12 c2 c3) (fun x13 =>
  (if x13 = true then
  bp (f_X12_of S5 x4 10) (fun x15 =>
  (if x15 = (-1) then
  bp (f_X12_markAt x4) (fun x16 =>
  chk 4 1177 (
  chk (x16 + 10) 1177 (lt (sa S5 0 (upd (S5.2 0) (x16 + 10).toNatClampNeg (S5.2 0 (4 : Int32).toNatClampNeg))) fun S17 =>
  lt (x3 + 1) fun x18 =>
  lt (x4 + 1) fun x19 =>
  rec6 S17 x18 x19)))
 else
  lt (x4 + 1) fun x20 =>
  rec6 S5 x3 x20))
 else
  lt (x4 + 1) fun x14 =>
  rec6 S5 x3 x14)))
 else
  lt (x4 + 1) fun x11 =>
  rec6 S5 x3 x11))))
set_option maxRecDepth 100000 in
set_option maxHeartbeats 4000000 in
theorem l_X12_ban_25 {X : KX} {g : KG} {q : Nat → Nat} {res : Int32 × MS} (C : kC X g cX12_ban "MarkChainsModel" rm_X12_ban 6) (hR : ∀ (pc : Nat) (lv : List (Nat × Value)), decode cX12_ban pc = .ok (.ireturn, 1) → jW X g (mw g q res.2) 0 0 pc lv [.int res.1]) (c1 : Int32) (c2 : Int32) (c3 : Int32) (k8 : MS → Int32 → Option (Int32 × MS)) (hk9 : ∀ (S21 : MS) (x22 : Int32), jJ X g res (mw g q S21) 0 0 105 [(4, .int x22)] [] (k8 S21 x22)) : ∀ (n : Nat) (S5 : MS) (x3 : Int32) (x4 : Int32), jJ X g res (mw g q S5) 0 0 25 [(0, .ref (q 0)), (1, .int c1), (2, .int c2), (3, .int c3), (4, .int x3), (5, .int x4)] [] (L_X12_ban_25 c1 c2 c3 k8 n S5 x3 x4) := by
  refine r_lo3 (fun S5 x3 x4 => mw g q S5) (fun S5 x3 x4 => [(0, .ref (q 0)), (1, .int c1), (2, .int c2), (3, .int c3), (4, .int x3), (5, .int x4)]) (fun rec6 ih7 S5 x3 x4 => ?_)
  refine r_iload (pc := 25) C dX12_ban_25 5 rfl ?_
  refine r_aload_n (pc := 27) C dX12_ban_27 0 rfl ?_
  refine mg_all (pc := 28) C dX12_ban_28 ?_
  refine r_iconst (pc := 31) C dX12_ban_31 (v := 3) (by decide) ?_
  refine ml_all (pc := 32) C dX12_ban_32 ?_
  refine r_icmp_ge 105 (pc := 33) C dX12_ban_33 (by decide) ?_ ?_
  · refine r_sub (lv' := [(4, .int x3)]) [4] rfl ?_
    exact hk9 S5 x3
  · refine r_aload_n (pc := 36) C dX12_ban_36 0 rfl ?_
    refine r_iload (pc := 37) C dX12_ban_37 5 rfl ?_
    refine r_iconst (pc := 39) C dX12_ban_39 (v := 1) (by decide) ?_
    refine r_cVpi (As := [.int x4, .int 1]) (st := []) (pc := 40) C (fun _ h => c_X12_of h) kY_X12_of kw_7_27 kw_0_64 kw_7_25 rfl ⟨Nat.le_of_ble_eq_true rfl, Nat.le_of_ble_eq_true rfl⟩ rfl rfl ⟨Nat.zero_le _, Nat.zero_le _⟩ 0 rfl rfl rfl (Nat.le_of_ble_eq_true rfl) dX12_ban_40 (fun x10 => ?_)
    refine r_iload_n (pc := 43) C dX12_ban_43 1 rfl ?_
    refine r_icmp_ne 99 (pc := 44) C dX12_ban_44 (by decide) ?_ ?_
    · refine r_iinc (pc := 99) C dX12_ban_99 (v := 1) (lv' := fun x11 => [(0, .ref (q 0)), (1, .int c1), (2, .int c2), (3, .int c3), (4, .int x3), (5, .int x11)]) 5 rfl (by decide) (by decide) [1, 2, 3, 4, 5, 0] (fun _ => rfl) (fun x11 => ?_)
      refine r_goto 25 (pc := 102) C dX12_ban_102 (by decide) ?_
      exact ih7 S5 x3 x11
    · refine r_aload_n (pc := 47) C dX12_ban_47 0 rfl ?_
      refine r_iload (pc := 48) C dX12_ban_48 5 rfl ?_
      refine r_iconst (pc := 50) C dX12_ban_50 (v := 3) (by decide) ?_
      refine r_cVpi (As := [.int x4, .int 3]) (st := []) (pc := 51) C (fun _ h => c_X12_of h) kY_X12_of kw_7_27 kw_0_64 kw_7_25 rfl ⟨Nat.le_of_ble_eq_true rfl, Nat.le_of_ble_eq_true rfl⟩ rfl rfl ⟨Nat.zero_le _, Nat.zero_le _⟩ 0 rfl rfl rfl (Nat.le_of_ble_eq_true rfl) dX12_ban_51 (fun x12 => ?_)
      refine r_iload_n (pc := 54) C dX12_ban_54 2 rfl ?_
      refine r_iload_n (pc := 55) C dX12_ban_55 3 rfl ?_
      refine r_cSpz (As := [.int x12, .int c2, .int c3]) (st := []) (pc := 56) C (fun _ h => c_X12_isIn h) kY_X12_isIn kw_6_124 kw_6_123 rfl ⟨Nat.le_of_ble_eq_true rfl, Nat.le_of_ble_eq_true rfl⟩ rfl rfl ⟨Nat.zero_le _, Nat.zero_le _⟩ rfl (Nat.le_of_ble_eq_true rfl) dX12_ban_56 (fun x13 => ?_)
      refine r_ifb_eq 99 (pc := 59) C dX12_ban_59 (by decide) ?_ ?_
      · refine r_iinc (pc := 99) C dX12_ban_99 (v := 1) (lv' := fun x14 => [(0, .ref (q 0)), (1, .int c1), (2, .int c2), (3, .int c3), (4, .int x3), (5, .int x14)]) 5 rfl (by decide) (by decide) [1, 2, 3, 4, 5, 0] (fun _ => rfl) (fun x14 => ?_)
        refine r_goto 25 (pc := 102) C dX12_ban_102 (by decide) ?_
        exact ih7 S5 x3 x14
      · refine r_aload_n (pc := 62) C dX12_ban_62 0 rfl ?_
        refine r_iload (pc := 63) C dX12_ban_63 5 rfl ?_
        refine r_bipush (pc := 65) C dX12_ban_65 (v := 10) (by decide) ?_
        refine r_cVpi (As := [.int x4, .int 10]) (st := []) (pc := 67) C (fun _ h => c_X12_of h) kY_X12_of kw_7_27 kw_0_64 kw_7_25 rfl ⟨Nat.le_of_ble_eq_true rfl, Nat.le_of_ble_eq_true rfl⟩ rfl rfl ⟨Nat.zero_le _, Nat.zero_le _⟩ 0 rfl rfl rfl (Nat.le_of_ble_eq_true rfl) dX12_ban_67 (fun x15 => ?_)
        refine r_iconst (pc := 70) C dX12_ban_70 (v := (-1)) (by decide) ?_
        refine r_icmp_eq 77 (pc := 71) C dX12_ban_71 (by decide) ?_ ?_
        · refine r_aload_n (pc := 77) C dX12_ban_77 0 rfl ?_
          refine mg_all (pc := 78) C dX12_ban_78 ?_
          refine r_iload (pc := 81) C dX12_ban_81 5 rfl ?_
          refine r_cSpi (As := [.int x4]) (st := [.ref (q 1)]) (pc := 83) C (fun _ h => c_X12_markAt h) kY_X12_markAt kw_6_178 kw_6_177 rfl ⟨Nat.le_of_ble_eq_true rfl, Nat.le_of_ble_eq_true rfl⟩ rfl rfl ⟨Nat.zero_le _, Nat.zero_le _⟩ rfl (Nat.le_of_ble_eq_true rfl) dX12_ban_83 (fun x16 => ?_)
          refine r_bipush (pc := 86) C dX12_ban_86 (v := 10) (by decide) ?_
          refine r_iadd (pc := 88) C dX12_ban_88 ?_
          refine r_aload_n (pc := 89) C dX12_ban_89 0 rfl ?_
          refine mg_all (pc := 90) C dX12_ban_90 ?_
          refine r_iconst (pc := 93) C dX12_ban_93 (v := 4) (by decide) ?_
          refine ml_all (pc := 94) C dX12_ban_94 ?_
          refine ms_all (pc := 95) C dX12_ban_95 (fun S17 => ?_)
          refine r_iinc (pc := 96) C dX12_ban_96 (v := 1) (lv' := fun x18 => [(0, .ref (q 0)), (1, .int c1), (2, .int c2), (3, .int c3), (4, .int x18), (5, .int x4)]) 4 rfl (by decide) (by decide) [1, 2, 3, 4, 0, 5] (fun _ => rfl) (fun x18 => ?_)
          refine r_iinc (pc := 99) C dX12_ban_99 (v := 1) (lv' := fun x19 => [(0, .ref (q 0)), (1, .int c1), (2, .int c2), (3, .int c3), (4, .int x18), (5, .int x19)]) 5 rfl (by decide) (by decide) [1, 2, 3, 4, 5, 0] (fun _ => rfl) (fun x19 => ?_)
          refine r_goto 25 (pc := 102) C dX12_ban_102 (by decide) ?_
          exact ih7 S17 x18 x19
        · refine r_goto 99 (pc := 74) C dX12_ban_74 (by decide) ?_
          refine r_iinc (pc := 99) C dX12_ban_99 (v := 1) (lv' := fun x20 => [(0, .ref (q 0)), (1, .int c1), (2, .int c2), (3, .int c3), (4, .int x3), (5, .int x20)]) 5 rfl (by decide) (by decide) [1, 2, 3, 4, 5, 0] (fun _ => rfl) (fun x20 => ?_)
          refine r_goto 25 (pc := 102) C dX12_ban_102 (by decide) ?_
          exact ih7 S5 x3 x20
set_option maxRecDepth 100000 in
theorem v_X12_ban_25 {S0 : MS} {c1 : Int32} {c2 : Int32} {c3 : Int32} {k8 : MS → Int32 → Option (Int32 × MS)} (hk9 : ∀ (S21 : MS) (x22 : Int32), (fI [3] [0, 1] S0) S21 → jf (fI [3] [0, 1] S0) Prod.snd (k8 S21 x22)) : ∀ (n : Nat) (S5 : MS) (x3 : Int32) (x4 : Int32), (fI [3] [0, 1] S0) S5 → jf (fI [3] [0, 1] S0) Prod.snd (L_X12_ban_25 c1 c2 c3 k8 n S5 x3 x4) := by
  refine f_lo3 (I := (fI [3] [0, 1] S0)) (fun S5 x3 x4 => S5) (fun rec6 ih7 S5 x3 x4 hS5 => ?_)
  refine f_chk ?_
  refine f_ite ?_ ?_
  · exact hk9 S5 x3 hS5
  · refine f_bp (fun x10 => ?_)
    refine f_ite ?_ ?_
    · refine f_bp (fun x12 => ?_)
      refine f_bp (fun x13 => ?_)
      refine f_ite ?_ ?_
      · refine f_bp (fun x15 => ?_)
        refine f_ite ?_ ?_
        · refine f_bp (fun x16 => ?_)
          refine f_chk ?_
          refine f_chk (f_ltS (fI_sa hS5 (by decide)) (fun S17 hS17 => ?_))
          refine f_lt (fun x18 => ?_)
          refine f_lt (fun x19 => ?_)
          exact ih7 S17 x18 x19 hS17
        · refine f_lt (fun x20 => ?_)
          exact ih7 S5 x3 x20 hS5
      · refine f_lt (fun x14 => ?_)
        exact ih7 S5 x3 x14 hS5
    · refine f_lt (fun x11 => ?_)
      exact ih7 S5 x3 x11 hS5
def f_X12_ban (S : MS) (a1 : Int32) (a2 : Int32) (a3 : Int32) : Option (Int32 × MS) :=
  bp (f_X12_isAthlete S a1) (fun x1 =>
  (if x1 = true then
  (if a2 ≤ a3 then
  bp (f_X12_deed S) (fun S2 =>
  L_X12_ban_25 a1 a2 a3 (fun S23 x24 =>
  some (x24, S23)) FU S2 0 0)
 else
  some ((-1), S))
 else
  some ((-1), S)))
set_option maxRecDepth 100000 in
set_option maxHeartbeats 4000000 in
theorem c_X12_ban {g : KG} {q : Nat → Nat} {S : MS} {a1 : Int32} {a2 : Int32} {a3 : Int32} {r : Int32} {S' : MS} (h : f_X12_ban S a1 a2 a3 = some (r, S')) : ∀ l, kM l yX12_ban cX12_ban 6 (some .int) rm_X12_ban g [.ref (q 0), .int a1, .int a2, .int a3] (mw g q S) (mw g q S') (some (.int r)) 0 0 := by
  refine k_open_i (own := "MarkChainsModel") (by decide) rfl (Nat.le_of_ble_eq_true rfl) (fun X C hR => ?_)
  refine (?_ : jJ X g ((r, S') : Int32 × MS) (mw g q S) 0 0 0 [(0, .ref (q 0)), (1, .int a1), (2, .int a2), (3, .int a3)] [] (f_X12_ban S a1 a2 a3)) h
  unfold f_X12_ban
  refine r_aload_n (pc := 0) C dX12_ban_0 0 rfl ?_
  refine r_iload_n (pc := 1) C dX12_ban_1 1 rfl ?_
  refine r_cVpz (As := [.int a1]) (st := []) (pc := 2) C (fun _ h => c_X12_isAthlete h) kY_X12_isAthlete kw_7_75 kw_0_69 kw_7_73 rfl ⟨Nat.le_of_ble_eq_true rfl, Nat.le_of_ble_eq_true rfl⟩ rfl rfl ⟨Nat.zero_le _, Nat.zero_le _⟩ 0 rfl rfl rfl (Nat.le_of_ble_eq_true rfl) dX12_ban_2 (fun x1 => ?_)
  refine r_ifb_eq 13 (pc := 5) C dX12_ban_5 (by decide) ?_ ?_
  · refine r_iconst (pc := 13) C dX12_ban_13 (v := (-1)) (by decide) ?_
    exact r_retWI (wf := mw g q) hR (pc := 14) dX12_ban_14
  · refine r_iload_n (pc := 8) C dX12_ban_8 2 rfl ?_
    refine r_iload_n (pc := 9) C dX12_ban_9 3 rfl ?_
    refine r_icmp_le 15 (pc := 10) C dX12_ban_10 (by decide) ?_ ?_
    · refine r_aload_n (pc := 15) C dX12_ban_15 0 rfl ?_
      refine r_cVwv (As := []) (st := []) (wf := mw g q) (pc := 16) C (fun _ h => c_X12_deed h) kY_X12_deed kw_6_191 kw_0_50 kw_6_189 rfl ⟨Nat.le_of_ble_eq_true rfl, Nat.le_of_ble_eq_true rfl⟩ rfl rfl ⟨Nat.zero_le _, Nat.zero_le _⟩ 0 rfl rfl rfl (Nat.le_of_ble_eq_true rfl) dX12_ban_16 (fun S2 => ?_)
      refine r_iconst (pc := 19) C dX12_ban_19 (v := 0) (by decide) ?_
      refine r_istore (pc := 20) C dX12_ban_20 (lv' := [(0, .ref (q 0)), (1, .int a1), (2, .int a2), (3, .int a3), (4, .int 0)]) (by decide) [1, 2, 3, 4, 0] rfl ?_
      refine r_iconst (pc := 22) C dX12_ban_22 (v := 0) (by decide) ?_
      refine r_istore (pc := 23) C dX12_ban_23 (lv' := [(0, .ref (q 0)), (1, .int a1), (2, .int a2), (3, .int a3), (4, .int 0), (5, .int 0)]) (by decide) [1, 2, 3, 4, 5, 0] rfl ?_
      refine l_X12_ban_25 C hR a1 a2 a3 _ (fun S23 x24 => ?_) FU S2 0 0
      refine r_iload (pc := 105) C dX12_ban_105 0 rfl ?_
      exact r_retWI (wf := mw g q) hR (pc := 107) dX12_ban_107
    · refine r_iconst (pc := 13) C dX12_ban_13 (v := (-1)) (by decide) ?_
      exact r_retWI (wf := mw g q) hR (pc := 14) dX12_ban_14
set_option maxRecDepth 100000 in
theorem w_X12_ban {S : MS} {a1 : Int32} {a2 : Int32} {a3 : Int32} {r : Int32} {S' : MS} (h : f_X12_ban S a1 a2 a3 = some (r, S')) : fI [3] [0, 1] S S' := by
  have hS : fI [3] [0, 1] S S := fI_rf
  refine (?_ : jf (fI [3] [0, 1] S) Prod.snd (f_X12_ban S a1 a2 a3)) _ h
  unfold f_X12_ban
  refine f_bp (fun x1 => ?_)
  refine f_ite ?_ ?_
  · refine f_ite ?_ ?_
    · refine f_bpS (fun _ h => fI_tr hS (w_X12_deed h) (by decide) (by decide)) (fun S2 hS2 => ?_)
      refine v_X12_ban_25 (fun S23 x24 hS23 => ?_) FU S2 0 0 hS2
      exact f_some hS23
    · exact f_some hS
  · exact f_some hS
abbrev rm_X12_paper : Room := { frames := 2, cells := 0, slots := 0, locals := 43 }
theorem kY_X12_paper : kY yX12_paper cX12_paper 3 (some .int) 2 := ⟨kw_1_13, kw_7_80, by decide, by decide, by decide +kernel⟩
def f_X12_paper (S : MS) (a1 : Int32) (a2 : Int32) : Option (Int32 × MS) :=
  bp (f_X12_isMark S a1) (fun x1 =>
  (if x1 = true then
  bp (f_X12_isIn a2 0 63) (fun x2 =>
  (if x2 = true then
  bp (f_X12_deed S) (fun S3 =>
  bp (f_X12_markAt a1) (fun x4 =>
  chk (x4 + 8) 1177 (
  chk (x4 + 8) 1177 (lt (sa S3 0 (upd (S3.2 0) (x4 + 8).toNatClampNeg ((S3.2 0 (x4 + 8).toNatClampNeg) ||| a2))) fun S5 =>
  bp (f_X12_of S5 a1 8) (fun x6 =>
  some (x6, S5))))))
 else
  some ((-1), S)))
 else
  some ((-1), S)))
set_option maxRecDepth 100000 in
set_option maxHeartbeats 4000000 in
theorem c_X12_paper {g : KG} {q : Nat → Nat} {S : MS} {a1 : Int32} {a2 : Int32} {r : Int32} {S' : MS} (h : f_X12_paper S a1 a2 = some (r, S')) : ∀ l, kM l yX12_paper cX12_paper 3 (some .int) rm_X12_paper g [.ref (q 0), .int a1, .int a2] (mw g q S) (mw g q S') (some (.int r)) 0 0 := by
  refine k_open_i (own := "MarkChainsModel") (by decide) rfl (Nat.le_of_ble_eq_true rfl) (fun X C hR => ?_)
  refine (?_ : jJ X g ((r, S') : Int32 × MS) (mw g q S) 0 0 0 [(0, .ref (q 0)), (1, .int a1), (2, .int a2)] [] (f_X12_paper S a1 a2)) h
  unfold f_X12_paper
  refine r_aload_n (pc := 0) C dX12_paper_0 0 rfl ?_
  refine r_iload_n (pc := 1) C dX12_paper_1 1 rfl ?_
  refine r_cVpz (As := [.int a1]) (st := []) (pc := 2) C (fun _ h => c_X12_isMark h) kY_X12_isMark kw_7_11 kw_0_60 kw_7_9 rfl ⟨Nat.le_of_ble_eq_true rfl, Nat.le_of_ble_eq_true rfl⟩ rfl rfl ⟨Nat.zero_le _, Nat.zero_le _⟩ 0 rfl rfl rfl (Nat.le_of_ble_eq_true rfl) dX12_paper_2 (fun x1 => ?_)
  refine r_ifb_eq 18 (pc := 5) C dX12_paper_5 (by decide) ?_ ?_
  · refine r_iconst (pc := 18) C dX12_paper_18 (v := (-1)) (by decide) ?_
    exact r_retWI (wf := mw g q) hR (pc := 19) dX12_paper_19
  · refine r_iload_n (pc := 8) C dX12_paper_8 2 rfl ?_
    refine r_iconst (pc := 9) C dX12_paper_9 (v := 0) (by decide) ?_
    refine r_bipush (pc := 10) C dX12_paper_10 (v := 63) (by decide) ?_
    refine r_cSpz (As := [.int a2, .int 0, .int 63]) (st := []) (pc := 12) C (fun _ h => c_X12_isIn h) kY_X12_isIn kw_6_124 kw_6_123 rfl ⟨Nat.le_of_ble_eq_true rfl, Nat.le_of_ble_eq_true rfl⟩ rfl rfl ⟨Nat.zero_le _, Nat.zero_le _⟩ rfl (Nat.le_of_ble_eq_true rfl) dX12_paper_12 (fun x2 => ?_)
    refine r_ifb_ne 20 (pc := 15) C dX12_paper_15 (by decide) ?_ ?_
    · refine r_aload_n (pc := 20) C dX12_paper_20 0 rfl ?_
      refine r_cVwv (As := []) (st := []) (wf := mw g q) (pc := 21) C (fun _ h => c_X12_deed h) kY_X12_deed kw_6_191 kw_0_50 kw_6_189 rfl ⟨Nat.le_of_ble_eq_true rfl, Nat.le_of_ble_eq_true rfl⟩ rfl rfl ⟨Nat.zero_le _, Nat.zero_le _⟩ 0 rfl rfl rfl (Nat.le_of_ble_eq_true rfl) dX12_paper_21 (fun S3 => ?_)
      refine r_aload_n (pc := 24) C dX12_paper_24 0 rfl ?_
      refine mg_all (pc := 25) C dX12_paper_25 ?_
      refine r_iload_n (pc := 28) C dX12_paper_28 1 rfl ?_
      refine r_cSpi (As := [.int a1]) (st := [.ref (q 1)]) (pc := 29) C (fun _ h => c_X12_markAt h) kY_X12_markAt kw_6_178 kw_6_177 rfl ⟨Nat.le_of_ble_eq_true rfl, Nat.le_of_ble_eq_true rfl⟩ rfl rfl ⟨Nat.zero_le _, Nat.zero_le _⟩ rfl (Nat.le_of_ble_eq_true rfl) dX12_paper_29 (fun x4 => ?_)
      refine r_bipush (pc := 32) C dX12_paper_32 (v := 8) (by decide) ?_
      refine r_iadd (pc := 34) C dX12_paper_34 ?_
      refine r_dup2 (pc := 35) C dX12_paper_35 rfl rfl ?_
      refine ml_all (pc := 36) C dX12_paper_36 ?_
      refine r_iload_n (pc := 37) C dX12_paper_37 2 rfl ?_
      refine r_ior (pc := 38) C dX12_paper_38 ?_
      refine ms_all (pc := 39) C dX12_paper_39 (fun S5 => ?_)
      refine r_aload_n (pc := 40) C dX12_paper_40 0 rfl ?_
      refine r_iload_n (pc := 41) C dX12_paper_41 1 rfl ?_
      refine r_bipush (pc := 42) C dX12_paper_42 (v := 8) (by decide) ?_
      refine r_cVpi (As := [.int a1, .int 8]) (st := []) (pc := 44) C (fun _ h => c_X12_of h) kY_X12_of kw_7_27 kw_0_64 kw_7_25 rfl ⟨Nat.le_of_ble_eq_true rfl, Nat.le_of_ble_eq_true rfl⟩ rfl rfl ⟨Nat.zero_le _, Nat.zero_le _⟩ 0 rfl rfl rfl (Nat.le_of_ble_eq_true rfl) dX12_paper_44 (fun x6 => ?_)
      exact r_retWI (wf := mw g q) hR (pc := 47) dX12_paper_47
    · refine r_iconst (pc := 18) C dX12_paper_18 (v := (-1)) (by decide) ?_
      exact r_retWI (wf := mw g q) hR (pc := 19) dX12_paper_19
set_option maxRecDepth 100000 in
theorem w_X12_paper {S : MS} {a1 : Int32} {a2 : Int32} {r : Int32} {S' : MS} (h : f_X12_paper S a1 a2 = some (r, S')) : fI [3] [0, 1] S S' := by
  have hS : fI [3] [0, 1] S S := fI_rf
  refine (?_ : jf (fI [3] [0, 1] S) Prod.snd (f_X12_paper S a1 a2)) _ h
  unfold f_X12_paper
  refine f_bp (fun x1 => ?_)
  refine f_ite ?_ ?_
  · refine f_bp (fun x2 => ?_)
    refine f_ite ?_ ?_
    · refine f_bpS (fun _ h => fI_tr hS (w_X12_deed h) (by decide) (by decide)) (fun S3 hS3 => ?_)
      refine f_bp (fun x4 => ?_)
      refine f_chk ?_
      refine f_chk (f_ltS (fI_sa hS3 (by decide)) (fun S5 hS5 => ?_))
      refine f_bp (fun x6 => ?_)
      exact f_some hS5
    · exact f_some hS
  · exact f_some hS
abbrev rm_X12_days : Room := { frames := 1, cells := 0, slots := 0, locals := 22 }
theorem kY_X12_days : kY yX12_days cX12_days 2 (some .int) 1 := ⟨kw_1_13, kw_7_84, by decide, by decide, by decide +kernel⟩
def f_X12_days (S : MS) (a1 : Int32) : Option (Int32 × MS) :=
  bp (f_X12_isIn a1 1 20000) (fun x1 =>
  (if x1 = true then
  bp (f_X12_deed S) (fun S2 =>
  chk 4 1177 (
  jn1 (fun (x3 : Int32) =>
  chk 4 1177 (lt (sa S2 0 (upd (S2.2 0) (4 : Int32).toNatClampNeg x3)) fun S4 =>
  chk 4 1177 (
  some (S4.2 0 (4 : Int32).toNatClampNeg, S4)))) (fun k5 =>
  (if ((S2.2 0 (4 : Int32).toNatClampNeg) + a1) ≤ 20000 then
  chk 4 1177 (
  k5 ((S2.2 0 (4 : Int32).toNatClampNeg) + a1))
 else
  k5 20000))))
 else
  some ((-1), S)))
set_option maxRecDepth 100000 in
set_option maxHeartbeats 4000000 in
theorem c_X12_days {g : KG} {q : Nat → Nat} {S : MS} {a1 : Int32} {r : Int32} {S' : MS} (h : f_X12_days S a1 = some (r, S')) : ∀ l, kM l yX12_days cX12_days 2 (some .int) rm_X12_days g [.ref (q 0), .int a1] (mw g q S) (mw g q S') (some (.int r)) 0 0 := by
  refine k_open_i (own := "MarkChainsModel") (by decide) rfl (Nat.le_of_ble_eq_true rfl) (fun X C hR => ?_)
  refine (?_ : jJ X g ((r, S') : Int32 × MS) (mw g q S) 0 0 0 [(0, .ref (q 0)), (1, .int a1)] [] (f_X12_days S a1)) h
  unfold f_X12_days
  refine r_iload_n (pc := 0) C dX12_days_0 1 rfl ?_
  refine r_iconst (pc := 1) C dX12_days_1 (v := 1) (by decide) ?_
  refine r_sipush (pc := 2) C dX12_days_2 (v := 20000) (by decide) ?_
  refine r_cSpz (As := [.int a1, .int 1, .int 20000]) (st := []) (pc := 5) C (fun _ h => c_X12_isIn h) kY_X12_isIn kw_6_124 kw_6_123 rfl ⟨Nat.le_of_ble_eq_true rfl, Nat.le_of_ble_eq_true rfl⟩ rfl rfl ⟨Nat.zero_le _, Nat.zero_le _⟩ rfl (Nat.le_of_ble_eq_true rfl) dX12_days_5 (fun x1 => ?_)
  refine r_ifb_ne 13 (pc := 8) C dX12_days_8 (by decide) ?_ ?_
  · refine r_aload_n (pc := 13) C dX12_days_13 0 rfl ?_
    refine r_cVwv (As := []) (st := []) (wf := mw g q) (pc := 14) C (fun _ h => c_X12_deed h) kY_X12_deed kw_6_191 kw_0_50 kw_6_189 rfl ⟨Nat.le_of_ble_eq_true rfl, Nat.le_of_ble_eq_true rfl⟩ rfl rfl ⟨Nat.zero_le _, Nat.zero_le _⟩ 0 rfl rfl rfl (Nat.le_of_ble_eq_true rfl) dX12_days_14 (fun S2 => ?_)
    refine r_aload_n (pc := 17) C dX12_days_17 0 rfl ?_
    refine mg_all (pc := 18) C dX12_days_18 ?_
    refine r_iconst (pc := 21) C dX12_days_21 (v := 4) (by decide) ?_
    refine r_aload_n (pc := 22) C dX12_days_22 0 rfl ?_
    refine mg_all (pc := 23) C dX12_days_23 ?_
    refine r_iconst (pc := 26) C dX12_days_26 (v := 4) (by decide) ?_
    refine ml_all (pc := 27) C dX12_days_27 ?_
    refine r_iload_n (pc := 28) C dX12_days_28 1 rfl ?_
    refine r_iadd (pc := 29) C dX12_days_29 ?_
    refine r_sipush (pc := 30) C dX12_days_30 (v := 20000) (by decide) ?_
    refine r_jn1 50 (fun (x3 : Int32) => mw g q S2) (fun (x3 : Int32) => [(0, .ref (q 0))]) (fun (x3 : Int32) => [.int x3, .int 4, .ref (q 1)]) (fun x3 => ?_) (fun k5 hk6 => ?_)
    · refine ms_all (pc := 50) C dX12_days_50 (fun S4 => ?_)
      refine r_aload_n (pc := 51) C dX12_days_51 0 rfl ?_
      refine mg_all (pc := 52) C dX12_days_52 ?_
      refine r_iconst (pc := 55) C dX12_days_55 (v := 4) (by decide) ?_
      refine ml_all (pc := 56) C dX12_days_56 ?_
      exact r_retWI (wf := mw g q) hR (pc := 57) dX12_days_57
    · refine r_icmp_le 42 (pc := 33) C dX12_days_33 (by decide) ?_ ?_
      · refine r_aload_n (pc := 42) C dX12_days_42 0 rfl ?_
        refine mg_all (pc := 43) C dX12_days_43 ?_
        refine r_iconst (pc := 46) C dX12_days_46 (v := 4) (by decide) ?_
        refine ml_all (pc := 47) C dX12_days_47 ?_
        refine r_iload_n (pc := 48) C dX12_days_48 1 rfl ?_
        refine r_iadd (pc := 49) C dX12_days_49 ?_
        refine r_sub (lv' := [(0, .ref (q 0))]) [0] rfl ?_
        exact hk6 ((S2.2 0 (4 : Int32).toNatClampNeg) + a1)
      · refine r_sipush (pc := 36) C dX12_days_36 (v := 20000) (by decide) ?_
        refine r_goto 50 (pc := 39) C dX12_days_39 (by decide) ?_
        refine r_sub (lv' := [(0, .ref (q 0))]) [0] rfl ?_
        exact hk6 20000
  · refine r_iconst (pc := 11) C dX12_days_11 (v := (-1)) (by decide) ?_
    exact r_retWI (wf := mw g q) hR (pc := 12) dX12_days_12
set_option maxRecDepth 100000 in
theorem w_X12_days {S : MS} {a1 : Int32} {r : Int32} {S' : MS} (h : f_X12_days S a1 = some (r, S')) : fI [3] [0, 1] S S' := by
  have hS : fI [3] [0, 1] S S := fI_rf
  refine (?_ : jf (fI [3] [0, 1] S) Prod.snd (f_X12_days S a1)) _ h
  unfold f_X12_days
  refine f_bp (fun x1 => ?_)
  refine f_ite ?_ ?_
  · refine f_bpS (fun _ h => fI_tr hS (w_X12_deed h) (by decide) (by decide)) (fun S2 hS2 => ?_)
    refine f_chk ?_
    refine f_jm1 hS2 (fun x3 hS2 => ?_) (fun k5 hk6 => ?_)
    · refine f_chk (f_ltS (fI_sa hS2 (by decide)) (fun S4 hS4 => ?_))
      refine f_chk ?_
      exact f_some hS4
    · refine f_ite ?_ ?_
      · refine f_chk ?_
        exact hk6 ((S2.2 0 (4 : Int32).toNatClampNeg) + a1) hS2
      · exact hk6 20000 hS2
  · exact f_some hS
