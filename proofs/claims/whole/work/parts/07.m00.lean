abbrev rm_X12_isIn : Room := { frames := 0, cells := 0, slots := 0, locals := 0 }
theorem kY_X12_isIn : kY yX12_isIn cX12_isIn 3 (some .boolean) 3 := ⟨kw_1_13, kw_6_125, by decide, by decide, by decide +kernel⟩
def f_X12_isIn (a0 : Int32) (a1 : Int32) (a2 : Int32) : Option (Bool) :=
  (if a0 < a1 then
  some false
 else
  (if a2 < a0 then
  some false
 else
  some true))
set_option maxRecDepth 100000 in
set_option maxHeartbeats 4000000 in
theorem c_X12_isIn {g : KG} {ws : va_W} {a0 : Int32} {a1 : Int32} {a2 : Int32} {r : Bool} (h : f_X12_isIn a0 a1 a2 = some r) : ∀ l, kM l yX12_isIn cX12_isIn 3 (some .boolean) rm_X12_isIn g [.int a0, .int a1, .int a2] (ws) (ws) (some (.int (b2 r))) 0 0 := by
  refine k_open_z (own := "MarkChainsModel") (by decide) rfl (Nat.le_of_ble_eq_true rfl) (fun X C hR => ?_)
  refine (?_ : jJ X g (r : Bool) (ws) 0 0 0 [(0, .int a0), (1, .int a1), (2, .int a2)] [] (f_X12_isIn a0 a1 a2)) h
  unfold f_X12_isIn
  refine r_iload_n (pc := 0) C dX12_isIn_0 0 rfl ?_
  refine r_iload_n (pc := 1) C dX12_isIn_1 1 rfl ?_
  refine r_icmp_lt 14 (pc := 2) C dX12_isIn_2 (by decide) ?_ ?_
  · refine r_iconst (pc := 14) C dX12_isIn_14 (v := 0) (by decide) ?_
    exact r_retPZ hR rfl (pc := 15) dX12_isIn_15
  · refine r_iload_n (pc := 5) C dX12_isIn_5 0 rfl ?_
    refine r_iload_n (pc := 6) C dX12_isIn_6 2 rfl ?_
    refine r_icmp_gt 14 (pc := 7) C dX12_isIn_7 (by decide) ?_ ?_
    · refine r_iconst (pc := 14) C dX12_isIn_14 (v := 0) (by decide) ?_
      exact r_retPZ hR rfl (pc := 15) dX12_isIn_15
    · refine r_iconst (pc := 10) C dX12_isIn_10 (v := 1) (by decide) ?_
      refine r_goto 15 (pc := 11) C dX12_isIn_11 (by decide) ?_
      exact r_retPZ hR rfl (pc := 15) dX12_isIn_15
abbrev rm_X12_deed : Room := { frames := 0, cells := 0, slots := 0, locals := 0 }
theorem kY_X12_deed : kY yX12_deed cX12_deed 2 none 0 := ⟨kw_1_13, kw_6_192, by decide, by decide, by decide +kernel⟩
def L_X12_deed_52 (k6 : MS → Option (MS)) : Nat → MS → Int32 → Option (MS) := lo2 fun rec4 S3 x2 =>
  (if 1177 ≤ x2 then
  k6 S3
 else
  chk x2 1177 (
  chk ((1177 * (S3.1 3)) + x2) 14124 (lt (sa S3 1 (upd (S3.2 1) ((1177 * (S3.1 3)) + x2).toNatClampNeg (S3.2 0 x2.toNatClampNeg))) fun S8 =>
  lt (x2 + 1) fun x9 =>
  rec4 S8 x9)))
set_option maxRecDepth 100000 in
set_option maxHeartbeats 4000000 in
theorem l_X12_deed_52 {X : KX} {g : KG} {q : Nat → Nat} {res : MS} (C : kC X g cX12_deed "MarkChainsModel" rm_X12_deed 2) (hR : ∀ (pc : Nat) (lv : List (Nat × Value)), decode cX12_deed pc = .ok (.return_, 1) → jW X g (mw g q res) 0 0 pc lv []) (k6 : MS → Option (MS)) (hk7 : ∀ (S10 : MS), jJ X g res (mw g q S10) 0 0 86 [(0, .ref (q 0))] [] (k6 S10)) : ∀ (n : Nat) (S3 : MS) (x2 : Int32), jJ X g res (mw g q S3) 0 0 52 [(0, .ref (q 0)), (1, .int x2)] [] (L_X12_deed_52 k6 n S3 x2) := by
  refine r_lo2 (fun S3 x2 => mw g q S3) (fun S3 x2 => [(0, .ref (q 0)), (1, .int x2)]) (fun rec4 ih5 S3 x2 => ?_)
  refine r_iload_n (pc := 52) C dX12_deed_52 1 rfl ?_
  refine r_sipush (pc := 53) C dX12_deed_53 (v := 1177) (by decide) ?_
  refine r_icmp_ge 86 (pc := 56) C dX12_deed_56 (by decide) ?_ ?_
  · refine r_sub (lv' := [(0, .ref (q 0))]) [0] rfl ?_
    exact hk7 S3
  · refine r_aload_n (pc := 59) C dX12_deed_59 0 rfl ?_
    refine mg_kept (pc := 60) C dX12_deed_60 ?_
    refine r_sipush (pc := 63) C dX12_deed_63 (v := 1177) (by decide) ?_
    refine r_aload_n (pc := 66) C dX12_deed_66 0 rfl ?_
    refine mg_deeds (pc := 67) C dX12_deed_67 ?_
    refine r_imul (pc := 70) C dX12_deed_70 ?_
    refine r_iload_n (pc := 71) C dX12_deed_71 1 rfl ?_
    refine r_iadd (pc := 72) C dX12_deed_72 ?_
    refine r_aload_n (pc := 73) C dX12_deed_73 0 rfl ?_
    refine mg_all (pc := 74) C dX12_deed_74 ?_
    refine r_iload_n (pc := 77) C dX12_deed_77 1 rfl ?_
    refine ml_all (pc := 78) C dX12_deed_78 ?_
    refine ms_kept (pc := 79) C dX12_deed_79 (fun S8 => ?_)
    refine r_iinc (pc := 80) C dX12_deed_80 (v := 1) (lv' := fun x9 => [(0, .ref (q 0)), (1, .int x9)]) 1 rfl (by decide) (by decide) [1, 0] (fun _ => rfl) (fun x9 => ?_)
    refine r_goto 52 (pc := 83) C dX12_deed_83 (by decide) ?_
    exact ih5 S8 x9
set_option maxRecDepth 100000 in
theorem v_X12_deed_52 {S0 : MS} {k6 : MS → Option (MS)} (hk7 : ∀ (S10 : MS), (fI [3] [1] S0) S10 → jf (fI [3] [1] S0) id (k6 S10)) : ∀ (n : Nat) (S3 : MS) (x2 : Int32), (fI [3] [1] S0) S3 → jf (fI [3] [1] S0) id (L_X12_deed_52 k6 n S3 x2) := by
  refine f_lo2 (I := (fI [3] [1] S0)) (fun S3 x2 => S3) (fun rec4 ih5 S3 x2 hS3 => ?_)
  refine f_ite ?_ ?_
  · exact hk7 S3 hS3
  · refine f_chk ?_
    refine f_chk (f_ltS (fI_sa hS3 (by decide)) (fun S8 hS8 => ?_))
    refine f_lt (fun x9 => ?_)
    exact ih5 S8 x9 hS8
def L_X12_deed_11 (k19 : MS → Option (MS)) : Nat → MS → Int32 → Option (MS) := lo2 fun rec17 S16 x15 =>
  (if 12947 ≤ x15 then
  k19 S16
 else
  chk (x15 + 1177) 14124 (
  chk x15 14124 (lt (sa S16 1 (upd (S16.2 1) x15.toNatClampNeg (S16.2 1 (x15 + 1177).toNatClampNeg))) fun S21 =>
  lt (x15 + 1) fun x22 =>
  rec17 S21 x22)))
set_option maxRecDepth 100000 in
set_option maxHeartbeats 4000000 in
theorem l_X12_deed_11 {X : KX} {g : KG} {q : Nat → Nat} {res : MS} (C : kC X g cX12_deed "MarkChainsModel" rm_X12_deed 2) (hR : ∀ (pc : Nat) (lv : List (Nat × Value)), decode cX12_deed pc = .ok (.return_, 1) → jW X g (mw g q res) 0 0 pc lv []) (k19 : MS → Option (MS)) (hk20 : ∀ (S23 : MS), jJ X g res (mw g q S23) 0 0 40 [(0, .ref (q 0))] [] (k19 S23)) : ∀ (n : Nat) (S16 : MS) (x15 : Int32), jJ X g res (mw g q S16) 0 0 11 [(0, .ref (q 0)), (1, .int x15)] [] (L_X12_deed_11 k19 n S16 x15) := by
  refine r_lo2 (fun S16 x15 => mw g q S16) (fun S16 x15 => [(0, .ref (q 0)), (1, .int x15)]) (fun rec17 ih18 S16 x15 => ?_)
  refine r_iload_n (pc := 11) C dX12_deed_11 1 rfl ?_
  refine r_sipush (pc := 12) C dX12_deed_12 (v := 12947) (by decide) ?_
  refine r_icmp_ge 40 (pc := 15) C dX12_deed_15 (by decide) ?_ ?_
  · refine r_sub (lv' := [(0, .ref (q 0))]) [0] rfl ?_
    exact hk20 S16
  · refine r_aload_n (pc := 18) C dX12_deed_18 0 rfl ?_
    refine mg_kept (pc := 19) C dX12_deed_19 ?_
    refine r_iload_n (pc := 22) C dX12_deed_22 1 rfl ?_
    refine r_aload_n (pc := 23) C dX12_deed_23 0 rfl ?_
    refine mg_kept (pc := 24) C dX12_deed_24 ?_
    refine r_iload_n (pc := 27) C dX12_deed_27 1 rfl ?_
    refine r_sipush (pc := 28) C dX12_deed_28 (v := 1177) (by decide) ?_
    refine r_iadd (pc := 31) C dX12_deed_31 ?_
    refine ml_kept (pc := 32) C dX12_deed_32 ?_
    refine ms_kept (pc := 33) C dX12_deed_33 (fun S21 => ?_)
    refine r_iinc (pc := 34) C dX12_deed_34 (v := 1) (lv' := fun x22 => [(0, .ref (q 0)), (1, .int x22)]) 1 rfl (by decide) (by decide) [1, 0] (fun _ => rfl) (fun x22 => ?_)
    refine r_goto 11 (pc := 37) C dX12_deed_37 (by decide) ?_
    exact ih18 S21 x22
set_option maxRecDepth 100000 in
theorem v_X12_deed_11 {S0 : MS} {k19 : MS → Option (MS)} (hk20 : ∀ (S23 : MS), (fI [3] [1] S0) S23 → jf (fI [3] [1] S0) id (k19 S23)) : ∀ (n : Nat) (S16 : MS) (x15 : Int32), (fI [3] [1] S0) S16 → jf (fI [3] [1] S0) id (L_X12_deed_11 k19 n S16 x15) := by
  refine f_lo2 (I := (fI [3] [1] S0)) (fun S16 x15 => S16) (fun rec17 ih18 S16 x15 hS16 => ?_)
  refine f_ite ?_ ?_
  · exact hk20 S16 hS16
  · refine f_chk ?_
    refine f_chk (f_ltS (fI_sa hS16 (by decide)) (fun S21 hS21 => ?_))
    refine f_lt (fun x22 => ?_)
    exact ih18 S21 x22 hS21
def f_X12_deed (S : MS) : Option (MS) :=
  jn1 (fun (S1 : MS) =>
  L_X12_deed_52 (fun S11 =>
  lt (si S11 3 ((S11.1 3) + 1)) fun S12 =>
  some S12) FU S1 0) (fun k13 =>
  (if (S.1 3) = 12 then
  L_X12_deed_11 (fun S24 =>
  lt (si S24 3 ((S24.1 3) - 1)) fun S25 =>
  k13 S25) FU S 0
 else
  k13 S))
set_option maxRecDepth 100000 in
set_option maxHeartbeats 4000000 in
theorem c_X12_deed {g : KG} {q : Nat → Nat} {S : MS}  {S' : MS} (h : f_X12_deed S = some S') : ∀ l, kM l yX12_deed cX12_deed 2 none rm_X12_deed g [.ref (q 0)] (mw g q S) (mw g q S') (none) 0 0 := by
  refine k_open_v (own := "MarkChainsModel") (by decide) rfl (Nat.le_of_ble_eq_true rfl) (fun X C hR => ?_)
  refine (?_ : jJ X g (S' : MS) (mw g q S) 0 0 0 [(0, .ref (q 0))] [] (f_X12_deed S)) h
  unfold f_X12_deed
  refine r_aload_n (pc := 0) C dX12_deed_0 0 rfl ?_
  refine mg_deeds (pc := 1) C dX12_deed_1 ?_
  refine r_bipush (pc := 4) C dX12_deed_4 (v := 12) (by decide) ?_
  refine r_jn1 50 (fun (S1 : MS) => mw g q S1) (fun (S1 : MS) => [(0, .ref (q 0))]) (fun (S1 : MS) => []) (fun S1 => ?_) (fun k13 hk14 => ?_)
  · refine r_iconst (pc := 50) C dX12_deed_50 (v := 0) (by decide) ?_
    refine r_istore_n (pc := 51) C dX12_deed_51 (lv' := [(0, .ref (q 0)), (1, .int 0)]) (by decide) [1, 0] rfl ?_
    refine l_X12_deed_52 C hR _ (fun S11 => ?_) FU S1 0
    refine r_aload_n (pc := 86) C dX12_deed_86 0 rfl ?_
    refine r_dup (pc := 87) C dX12_deed_87 rfl ?_
    refine mg_deeds (pc := 88) C dX12_deed_88 ?_
    refine r_iconst (pc := 91) C dX12_deed_91 (v := 1) (by decide) ?_
    refine r_iadd (pc := 92) C dX12_deed_92 ?_
    refine mp_deeds (pc := 93) C dX12_deed_93 (fun S12 => ?_)
    exact r_retWV (wf := mw g q) hR (pc := 96) dX12_deed_96
  · refine r_icmp_ne 50 (pc := 6) C dX12_deed_6 (by decide) ?_ ?_
    · exact hk14 S
    · refine r_iconst (pc := 9) C dX12_deed_9 (v := 0) (by decide) ?_
      refine r_istore_n (pc := 10) C dX12_deed_10 (lv' := [(0, .ref (q 0)), (1, .int 0)]) (by decide) [1, 0] rfl ?_
      refine l_X12_deed_11 C hR _ (fun S24 => ?_) FU S 0
      refine r_aload_n (pc := 40) C dX12_deed_40 0 rfl ?_
      refine r_dup (pc := 41) C dX12_deed_41 rfl ?_
      refine mg_deeds (pc := 42) C dX12_deed_42 ?_
      refine r_iconst (pc := 45) C dX12_deed_45 (v := 1) (by decide) ?_
      refine r_isub (pc := 46) C dX12_deed_46 ?_
      refine mp_deeds (pc := 47) C dX12_deed_47 (fun S25 => ?_)
      exact hk14 S25
set_option maxRecDepth 100000 in
theorem w_X12_deed {S : MS}  {S' : MS} (h : f_X12_deed S = some S') : fI [3] [1] S S' := by
  have hS : fI [3] [1] S S := fI_rf
  refine (?_ : jf (fI [3] [1] S) id (f_X12_deed S)) _ h
  unfold f_X12_deed
  refine f_jn1 (fun S1 hS1 => ?_) (fun k13 hk14 => ?_)
  · refine v_X12_deed_52 (fun S11 hS11 => ?_) FU S1 0 hS1
    refine f_ltS (fI_si hS11 (by decide)) (fun S12 hS12 => ?_)
    exact f_some hS12
  · refine f_ite ?_ ?_
    · refine v_X12_deed_11 (fun S24 hS24 => ?_) FU S 0 hS
      refine f_ltS (fI_si hS24 (by decide)) (fun S25 hS25 => ?_)
      exact hk14 S25 hS25
    · exact hk14 S hS
abbrev rm_X12_back : Room := { frames := 0, cells := 0, slots := 0, locals := 0 }
theorem kY_X12_back : kY yX12_back cX12_back 2 (some .int) 0 := ⟨kw_1_13, kw_6_110, by decide, by decide, by decide +kernel⟩
def L_X12_back_21 (k6 : MS → Option (Int32 × MS)) : Nat → MS → Int32 → Option (Int32 × MS) := lo2 fun rec4 S3 x2 =>
  (if 1177 ≤ x2 then
  k6 S3
 else
  chk ((1177 * (S3.1 3)) + x2) 14124 (
  chk x2 1177 (lt (sa S3 0 (upd (S3.2 0) x2.toNatClampNeg (S3.2 1 ((1177 * (S3.1 3)) + x2).toNatClampNeg))) fun S8 =>
  lt (x2 + 1) fun x9 =>
  rec4 S8 x9)))
set_option maxRecDepth 100000 in
set_option maxHeartbeats 4000000 in
theorem l_X12_back_21 {X : KX} {g : KG} {q : Nat → Nat} {res : Int32 × MS} (C : kC X g cX12_back "MarkChainsModel" rm_X12_back 2) (hR : ∀ (pc : Nat) (lv : List (Nat × Value)), decode cX12_back pc = .ok (.ireturn, 1) → jW X g (mw g q res.2) 0 0 pc lv [.int res.1]) (k6 : MS → Option (Int32 × MS)) (hk7 : ∀ (S10 : MS), jJ X g res (mw g q S10) 0 0 55 [(0, .ref (q 0))] [] (k6 S10)) : ∀ (n : Nat) (S3 : MS) (x2 : Int32), jJ X g res (mw g q S3) 0 0 21 [(0, .ref (q 0)), (1, .int x2)] [] (L_X12_back_21 k6 n S3 x2) := by
  refine r_lo2 (fun S3 x2 => mw g q S3) (fun S3 x2 => [(0, .ref (q 0)), (1, .int x2)]) (fun rec4 ih5 S3 x2 => ?_)
  refine r_iload_n (pc := 21) C dX12_back_21 1 rfl ?_
  refine r_sipush (pc := 22) C dX12_back_22 (v := 1177) (by decide) ?_
  refine r_icmp_ge 55 (pc := 25) C dX12_back_25 (by decide) ?_ ?_
  · refine r_sub (lv' := [(0, .ref (q 0))]) [0] rfl ?_
    exact hk7 S3
  · refine r_aload_n (pc := 28) C dX12_back_28 0 rfl ?_
    refine mg_all (pc := 29) C dX12_back_29 ?_
    refine r_iload_n (pc := 32) C dX12_back_32 1 rfl ?_
    refine r_aload_n (pc := 33) C dX12_back_33 0 rfl ?_
    refine mg_kept (pc := 34) C dX12_back_34 ?_
    refine r_sipush (pc := 37) C dX12_back_37 (v := 1177) (by decide) ?_
    refine r_aload_n (pc := 40) C dX12_back_40 0 rfl ?_
    refine mg_deeds (pc := 41) C dX12_back_41 ?_
    refine r_imul (pc := 44) C dX12_back_44 ?_
    refine r_iload_n (pc := 45) C dX12_back_45 1 rfl ?_
    refine r_iadd (pc := 46) C dX12_back_46 ?_
    refine ml_kept (pc := 47) C dX12_back_47 ?_
    refine ms_all (pc := 48) C dX12_back_48 (fun S8 => ?_)
    refine r_iinc (pc := 49) C dX12_back_49 (v := 1) (lv' := fun x9 => [(0, .ref (q 0)), (1, .int x9)]) 1 rfl (by decide) (by decide) [1, 0] (fun _ => rfl) (fun x9 => ?_)
    refine r_goto 21 (pc := 52) C dX12_back_52 (by decide) ?_
    exact ih5 S8 x9
set_option maxRecDepth 100000 in
theorem v_X12_back_21 {S0 : MS} {k6 : MS → Option (Int32 × MS)} (hk7 : ∀ (S10 : MS), (fI [3] [0] S0) S10 → jf (fI [3] [0] S0) Prod.snd (k6 S10)) : ∀ (n : Nat) (S3 : MS) (x2 : Int32), (fI [3] [0] S0) S3 → jf (fI [3] [0] S0) Prod.snd (L_X12_back_21 k6 n S3 x2) := by
  refine f_lo2 (I := (fI [3] [0] S0)) (fun S3 x2 => S3) (fun rec4 ih5 S3 x2 hS3 => ?_)
  refine f_ite ?_ ?_
  · exact hk7 S3 hS3
  · refine f_chk ?_
    refine f_chk (f_ltS (fI_sa hS3 (by decide)) (fun S8 hS8 => ?_))
    refine f_lt (fun x9 => ?_)
    exact ih5 S8 x9 hS8
def f_X12_back (S : MS) : Option (Int32 × MS) :=
  (if (S.1 3) = 0 then
  some ((-1), S)
 else
  lt (si S 3 ((S.1 3) - 1)) fun S1 =>
  L_X12_back_21 (fun S11 =>
  some (S11.1 3, S11)) FU S1 0)
set_option maxRecDepth 100000 in
set_option maxHeartbeats 4000000 in
theorem c_X12_back {g : KG} {q : Nat → Nat} {S : MS}  {r : Int32} {S' : MS} (h : f_X12_back S = some (r, S')) : ∀ l, kM l yX12_back cX12_back 2 (some .int) rm_X12_back g [.ref (q 0)] (mw g q S) (mw g q S') (some (.int r)) 0 0 := by
  refine k_open_i (own := "MarkChainsModel") (by decide) rfl (Nat.le_of_ble_eq_true rfl) (fun X C hR => ?_)
  refine (?_ : jJ X g ((r, S') : Int32 × MS) (mw g q S) 0 0 0 [(0, .ref (q 0))] [] (f_X12_back S)) h
  unfold f_X12_back
  refine r_aload_n (pc := 0) C dX12_back_0 0 rfl ?_
  refine mg_deeds (pc := 1) C dX12_back_1 ?_
  refine r_if_ne 9 (pc := 4) C dX12_back_4 (by decide) ?_ ?_
  · refine r_aload_n (pc := 9) C dX12_back_9 0 rfl ?_
    refine r_dup (pc := 10) C dX12_back_10 rfl ?_
    refine mg_deeds (pc := 11) C dX12_back_11 ?_
    refine r_iconst (pc := 14) C dX12_back_14 (v := 1) (by decide) ?_
    refine r_isub (pc := 15) C dX12_back_15 ?_
    refine mp_deeds (pc := 16) C dX12_back_16 (fun S1 => ?_)
    refine r_iconst (pc := 19) C dX12_back_19 (v := 0) (by decide) ?_
    refine r_istore_n (pc := 20) C dX12_back_20 (lv' := [(0, .ref (q 0)), (1, .int 0)]) (by decide) [1, 0] rfl ?_
    refine l_X12_back_21 C hR _ (fun S11 => ?_) FU S1 0
    refine r_aload_n (pc := 55) C dX12_back_55 0 rfl ?_
    refine mg_deeds (pc := 56) C dX12_back_56 ?_
    exact r_retWI (wf := mw g q) hR (pc := 59) dX12_back_59
  · refine r_iconst (pc := 7) C dX12_back_7 (v := (-1)) (by decide) ?_
    exact r_retWI (wf := mw g q) hR (pc := 8) dX12_back_8
set_option maxRecDepth 100000 in
theorem w_X12_back {S : MS}  {r : Int32} {S' : MS} (h : f_X12_back S = some (r, S')) : fI [3] [0] S S' := by
  have hS : fI [3] [0] S S := fI_rf
  refine (?_ : jf (fI [3] [0] S) Prod.snd (f_X12_back S)) _ h
  unfold f_X12_back
  refine f_ite ?_ ?_
  · exact f_some hS
  · refine f_ltS (fI_si hS (by decide)) (fun S1 hS1 => ?_)
    refine v_X12_back_21 (fun S11 hS11 => ?_) FU S1 0 hS1
    exact f_some hS11
abbrev rm_X12_four : Room := { frames := 0, cells := 0, slots := 0, locals := 0 }
theorem kY_X12_four : kY yX12_four cX12_four 3 none 1 := ⟨kw_1_13, kw_6_118, by decide, by decide, by decide +kernel⟩
def L_X12_four_3 (c1 : Int32) (k5 : MS → Option (MS)) : Nat → MS → Int32 → Option (MS) := lo2 fun rec3 S2 x1 =>
  (if x1 < 0 then
  k5 S2
 else
  chk (S2.1 5) 600 (lt (sa S2 4 (upd (S2.2 4) (S2.1 5).toNatClampNeg (vp_nar .byte ((c1 >>> (x1 &&& 31)).toInt8.toInt32)))) fun S7 =>
  lt (si S7 5 ((S7.1 5) + 1)) fun S8 =>
  lt (x1 + (-8)) fun x9 =>
  rec3 S8 x9))
set_option maxRecDepth 100000 in
set_option maxHeartbeats 4000000 in
theorem l_X12_four_3 {X : KX} {g : KG} {q : Nat → Nat} {res : MS} (C : kC X g cX12_four "MarkChainsModel" rm_X12_four 3) (hR : ∀ (pc : Nat) (lv : List (Nat × Value)), decode cX12_four pc = .ok (.return_, 1) → jW X g (mw g q res) 0 0 pc lv []) (c1 : Int32) (k5 : MS → Option (MS)) (hk6 : ∀ (S10 : MS), jJ X g res (mw g q S10) 0 0 36 [] [] (k5 S10)) : ∀ (n : Nat) (S2 : MS) (x1 : Int32), jJ X g res (mw g q S2) 0 0 3 [(0, .ref (q 0)), (1, .int c1), (2, .int x1)] [] (L_X12_four_3 c1 k5 n S2 x1) := by
  refine r_lo2 (fun S2 x1 => mw g q S2) (fun S2 x1 => [(0, .ref (q 0)), (1, .int c1), (2, .int x1)]) (fun rec3 ih4 S2 x1 => ?_)
  refine r_iload_n (pc := 3) C dX12_four_3 2 rfl ?_
  refine r_if_lt 36 (pc := 4) C dX12_four_4 (by decide) ?_ ?_
  · refine r_sub (lv' := []) [] rfl ?_
    exact hk6 S2
  · refine r_aload_n (pc := 7) C dX12_four_7 0 rfl ?_
    refine mg_tape (pc := 8) C dX12_four_8 ?_
    refine r_aload_n (pc := 11) C dX12_four_11 0 rfl ?_
    refine mg_taped (pc := 12) C dX12_four_12 ?_
    refine r_iload_n (pc := 15) C dX12_four_15 1 rfl ?_
    refine r_iload_n (pc := 16) C dX12_four_16 2 rfl ?_
    refine r_ishr (pc := 17) C dX12_four_17 ?_
    refine r_i2b (pc := 18) C dX12_four_18 ?_
    refine ms_tape (pc := 19) C dX12_four_19 (fun S7 => ?_)
    refine r_aload_n (pc := 20) C dX12_four_20 0 rfl ?_
    refine r_dup (pc := 21) C dX12_four_21 rfl ?_
    refine mg_taped (pc := 22) C dX12_four_22 ?_
    refine r_iconst (pc := 25) C dX12_four_25 (v := 1) (by decide) ?_
    refine r_iadd (pc := 26) C dX12_four_26 ?_
    refine mp_taped (pc := 27) C dX12_four_27 (fun S8 => ?_)
    refine r_iinc (pc := 30) C dX12_four_30 (v := (-8)) (lv' := fun x9 => [(0, .ref (q 0)), (1, .int c1), (2, .int x9)]) 2 rfl (by decide) (by decide) [1, 2, 0] (fun _ => rfl) (fun x9 => ?_)
    refine r_goto 3 (pc := 33) C dX12_four_33 (by decide) ?_
    exact ih4 S8 x9
set_option maxRecDepth 100000 in
theorem v_X12_four_3 {S0 : MS} {c1 : Int32} {k5 : MS → Option (MS)} (hk6 : ∀ (S10 : MS), (fI [5] [4] S0) S10 → jf (fI [5] [4] S0) id (k5 S10)) : ∀ (n : Nat) (S2 : MS) (x1 : Int32), (fI [5] [4] S0) S2 → jf (fI [5] [4] S0) id (L_X12_four_3 c1 k5 n S2 x1) := by
  refine f_lo2 (I := (fI [5] [4] S0)) (fun S2 x1 => S2) (fun rec3 ih4 S2 x1 hS2 => ?_)
  refine f_ite ?_ ?_
  · exact hk6 S2 hS2
  · refine f_chk (f_ltS (fI_sa hS2 (by decide)) (fun S7 hS7 => ?_))
    refine f_ltS (fI_si hS7 (by decide)) (fun S8 hS8 => ?_)
    refine f_lt (fun x9 => ?_)
    exact ih4 S8 x9 hS8
def f_X12_four (S : MS) (a1 : Int32) : Option (MS) :=
  L_X12_four_3 a1 (fun S11 =>
  some S11) FU S 24
set_option maxRecDepth 100000 in
set_option maxHeartbeats 4000000 in
theorem c_X12_four {g : KG} {q : Nat → Nat} {S : MS} {a1 : Int32} {S' : MS} (h : f_X12_four S a1 = some S') : ∀ l, kM l yX12_four cX12_four 3 none rm_X12_four g [.ref (q 0), .int a1] (mw g q S) (mw g q S') (none) 0 0 := by
  refine k_open_v (own := "MarkChainsModel") (by decide) rfl (Nat.le_of_ble_eq_true rfl) (fun X C hR => ?_)
  refine (?_ : jJ X g (S' : MS) (mw g q S) 0 0 0 [(0, .ref (q 0)), (1, .int a1)] [] (f_X12_four S a1)) h
  unfold f_X12_four
  refine r_bipush (pc := 0) C dX12_four_0 (v := 24) (by decide) ?_
  refine r_istore_n (pc := 2) C dX12_four_2 (lv' := [(0, .ref (q 0)), (1, .int a1), (2, .int 24)]) (by decide) [1, 2, 0] rfl ?_
  refine l_X12_four_3 C hR a1 _ (fun S11 => ?_) FU S 24
  exact r_retWV (wf := mw g q) hR (pc := 36) dX12_four_36
set_option maxRecDepth 100000 in
theorem w_X12_four {S : MS} {a1 : Int32} {S' : MS} (h : f_X12_four S a1 = some S') : fI [5] [4] S S' := by
  have hS : fI [5] [4] S S := fI_rf
  refine (?_ : jf (fI [5] [4] S) id (f_X12_four S a1)) _ h
  unfold f_X12_four
  refine v_X12_four_3 (fun S11 hS11 => ?_) FU S 24 hS
  exact f_some hS11
abbrev rm_X12_feed : Room := { frames := 1, cells := 0, slots := 0, locals := 22 }
theorem kY_X12_feed : kY yX12_feed cX12_feed 6 (some .int) 5 := ⟨kw_1_13, kw_6_114, by decide, by decide, by decide +kernel⟩
def f_X12_feed (S : MS) (a1 : Int32) (a2 : Int32) (a3 : Int32) (a4 : Int32) (a5 : Int32) : Option (Int32 × MS) :=
  (if ((S.1 5) + 20) ≤ 600 then
  bp (f_X12_four S a1) (fun S1 =>
  bp (f_X12_four S1 a2) (fun S2 =>
  bp (f_X12_four S2 a3) (fun S3 =>
  bp (f_X12_four S3 a4) (fun S4 =>
  bp (f_X12_four S4 a5) (fun S5 =>
  some (S5.1 5, S5))))))
 else
  some ((-1), S))
set_option maxRecDepth 100000 in
set_option maxHeartbeats 4000000 in
theorem c_X12_feed {g : KG} {q : Nat → Nat} {S : MS} {a1 : Int32} {a2 : Int32} {a3 : Int32} {a4 : Int32} {a5 : Int32} {r : Int32} {S' : MS} (h : f_X12_feed S a1 a2 a3 a4 a5 = some (r, S')) : ∀ l, kM l yX12_feed cX12_feed 6 (some .int) rm_X12_feed g [.ref (q 0), .int a1, .int a2, .int a3, .int a4, .int a5] (mw g q S) (mw g q S') (some (.int r)) 0 0 := by
  refine k_open_i (own := "MarkChainsModel") (by decide) rfl (Nat.le_of_ble_eq_true rfl) (fun X C hR => ?_)
  refine (?_ : jJ X g ((r, S') : Int32 × MS) (mw g q S) 0 0 0 [(0, .ref (q 0)), (1, .int a1), (2, .int a2), (3, .int a3), (4, .int a4), (5, .int a5)] [] (f_X12_feed S a1 a2 a3 a4 a5)) h
  unfold f_X12_feed
  refine r_aload_n (pc := 0) C dX12_feed_0 0 rfl ?_
  refine mg_taped (pc := 1) C dX12_feed_1 ?_
  refine r_bipush (pc := 4) C dX12_feed_4 (v := 20) (by decide) ?_
  refine r_iadd (pc := 6) C dX12_feed_6 ?_
  refine r_sipush (pc := 7) C dX12_feed_7 (v := 600) (by decide) ?_
  refine r_icmp_le 15 (pc := 10) C dX12_feed_10 (by decide) ?_ ?_
  · refine r_aload_n (pc := 15) C dX12_feed_15 0 rfl ?_
    refine r_iload_n (pc := 16) C dX12_feed_16 1 rfl ?_
    refine r_cVwv (As := [.int a1]) (st := []) (wf := mw g q) (pc := 17) C (fun _ h => c_X12_four h) kY_X12_four kw_6_117 kw_0_37 kw_6_115 rfl ⟨Nat.le_of_ble_eq_true rfl, Nat.le_of_ble_eq_true rfl⟩ rfl rfl ⟨Nat.zero_le _, Nat.zero_le _⟩ 0 rfl rfl rfl (Nat.le_of_ble_eq_true rfl) dX12_feed_17 (fun S1 => ?_)
    refine r_aload_n (pc := 20) C dX12_feed_20 0 rfl ?_
    refine r_iload_n (pc := 21) C dX12_feed_21 2 rfl ?_
    refine r_cVwv (As := [.int a2]) (st := []) (wf := mw g q) (pc := 22) C (fun _ h => c_X12_four h) kY_X12_four kw_6_117 kw_0_37 kw_6_115 rfl ⟨Nat.le_of_ble_eq_true rfl, Nat.le_of_ble_eq_true rfl⟩ rfl rfl ⟨Nat.zero_le _, Nat.zero_le _⟩ 0 rfl rfl rfl (Nat.le_of_ble_eq_true rfl) dX12_feed_22 (fun S2 => ?_)
    refine r_aload_n (pc := 25) C dX12_feed_25 0 rfl ?_
    refine r_iload_n (pc := 26) C dX12_feed_26 3 rfl ?_
    refine r_cVwv (As := [.int a3]) (st := []) (wf := mw g q) (pc := 27) C (fun _ h => c_X12_four h) kY_X12_four kw_6_117 kw_0_37 kw_6_115 rfl ⟨Nat.le_of_ble_eq_true rfl, Nat.le_of_ble_eq_true rfl⟩ rfl rfl ⟨Nat.zero_le _, Nat.zero_le _⟩ 0 rfl rfl rfl (Nat.le_of_ble_eq_true rfl) dX12_feed_27 (fun S3 => ?_)
    refine r_aload_n (pc := 30) C dX12_feed_30 0 rfl ?_
    refine r_iload (pc := 31) C dX12_feed_31 4 rfl ?_
    refine r_cVwv (As := [.int a4]) (st := []) (wf := mw g q) (pc := 33) C (fun _ h => c_X12_four h) kY_X12_four kw_6_117 kw_0_37 kw_6_115 rfl ⟨Nat.le_of_ble_eq_true rfl, Nat.le_of_ble_eq_true rfl⟩ rfl rfl ⟨Nat.zero_le _, Nat.zero_le _⟩ 0 rfl rfl rfl (Nat.le_of_ble_eq_true rfl) dX12_feed_33 (fun S4 => ?_)
    refine r_aload_n (pc := 36) C dX12_feed_36 0 rfl ?_
    refine r_iload (pc := 37) C dX12_feed_37 5 rfl ?_
    refine r_cVwv (As := [.int a5]) (st := []) (wf := mw g q) (pc := 39) C (fun _ h => c_X12_four h) kY_X12_four kw_6_117 kw_0_37 kw_6_115 rfl ⟨Nat.le_of_ble_eq_true rfl, Nat.le_of_ble_eq_true rfl⟩ rfl rfl ⟨Nat.zero_le _, Nat.zero_le _⟩ 0 rfl rfl rfl (Nat.le_of_ble_eq_true rfl) dX12_feed_39 (fun S5 => ?_)
    refine r_aload_n (pc := 42) C dX12_feed_42 0 rfl ?_
    refine mg_taped (pc := 43) C dX12_feed_43 ?_
    exact r_retWI (wf := mw g q) hR (pc := 46) dX12_feed_46
  · refine r_iconst (pc := 13) C dX12_feed_13 (v := (-1)) (by decide) ?_
    exact r_retWI (wf := mw g q) hR (pc := 14) dX12_feed_14
set_option maxRecDepth 100000 in
theorem w_X12_feed {S : MS} {a1 : Int32} {a2 : Int32} {a3 : Int32} {a4 : Int32} {a5 : Int32} {r : Int32} {S' : MS} (h : f_X12_feed S a1 a2 a3 a4 a5 = some (r, S')) : fI [5] [4] S S' := by
  have hS : fI [5] [4] S S := fI_rf
  refine (?_ : jf (fI [5] [4] S) Prod.snd (f_X12_feed S a1 a2 a3 a4 a5)) _ h
  unfold f_X12_feed
  refine f_ite ?_ ?_
  · refine f_bpS (fun _ h => fI_tr hS (w_X12_four h) (by decide) (by decide)) (fun S1 hS1 => ?_)
    refine f_bpS (fun _ h => fI_tr hS1 (w_X12_four h) (by decide) (by decide)) (fun S2 hS2 => ?_)
    refine f_bpS (fun _ h => fI_tr hS2 (w_X12_four h) (by decide) (by decide)) (fun S3 hS3 => ?_)
    refine f_bpS (fun _ h => fI_tr hS3 (w_X12_four h) (by decide) (by decide)) (fun S4 hS4 => ?_)
    refine f_bpS (fun _ h => fI_tr hS4 (w_X12_four h) (by decide) (by decide)) (fun S5 hS5 => ?_)
    exact f_some hS5
  · exact f_some hS
abbrev rm_X12_end : Room := { frames := 1, cells := 0, slots := 0, locals := 22 }
theorem kY_X12_end : kY yX12_end cX12_end 2 (some .int) 1 := ⟨kw_1_13, kw_6_122, by decide, by decide, by decide +kernel⟩
def f_X12_end (S : MS) (a1 : Int32) : Option (Int32 × MS) :=
  bp (f_X12_isIn a1 0 (S.1 5)) (fun x1 =>
  (if x1 = true then
  lt (si S 5 a1) fun S2 =>
  some (a1, S2)
 else
  some ((-1), S)))
set_option maxRecDepth 100000 in
set_option maxHeartbeats 4000000 in
theorem c_X12_end {g : KG} {q : Nat → Nat} {S : MS} {a1 : Int32} {r : Int32} {S' : MS} (h : f_X12_end S a1 = some (r, S')) : ∀ l, kM l yX12_end cX12_end 2 (some .int) rm_X12_end g [.ref (q 0), .int a1] (mw g q S) (mw g q S') (some (.int r)) 0 0 := by
  refine k_open_i (own := "MarkChainsModel") (by decide) rfl (Nat.le_of_ble_eq_true rfl) (fun X C hR => ?_)
  refine (?_ : jJ X g ((r, S') : Int32 × MS) (mw g q S) 0 0 0 [(0, .ref (q 0)), (1, .int a1)] [] (f_X12_end S a1)) h
  unfold f_X12_end
  refine r_iload_n (pc := 0) C dX12_end_0 1 rfl ?_
  refine r_iconst (pc := 1) C dX12_end_1 (v := 0) (by decide) ?_
  refine r_aload_n (pc := 2) C dX12_end_2 0 rfl ?_
  refine mg_taped (pc := 3) C dX12_end_3 ?_
  refine r_cSpz (As := [.int a1, .int 0, .int (S.1 5)]) (st := []) (pc := 6) C (fun _ h => c_X12_isIn h) kY_X12_isIn kw_6_124 kw_6_123 rfl ⟨Nat.le_of_ble_eq_true rfl, Nat.le_of_ble_eq_true rfl⟩ rfl rfl ⟨Nat.zero_le _, Nat.zero_le _⟩ rfl (Nat.le_of_ble_eq_true rfl) dX12_end_6 (fun x1 => ?_)
  refine r_ifb_ne 14 (pc := 9) C dX12_end_9 (by decide) ?_ ?_
  · refine r_aload_n (pc := 14) C dX12_end_14 0 rfl ?_
    refine r_iload_n (pc := 15) C dX12_end_15 1 rfl ?_
    refine mp_taped (pc := 16) C dX12_end_16 (fun S2 => ?_)
    refine r_iload_n (pc := 19) C dX12_end_19 1 rfl ?_
    exact r_retWI (wf := mw g q) hR (pc := 20) dX12_end_20
  · refine r_iconst (pc := 12) C dX12_end_12 (v := (-1)) (by decide) ?_
    exact r_retWI (wf := mw g q) hR (pc := 13) dX12_end_13
set_option maxRecDepth 100000 in
theorem w_X12_end {S : MS} {a1 : Int32} {r : Int32} {S' : MS} (h : f_X12_end S a1 = some (r, S')) : fI [5] [] S S' := by
  have hS : fI [5] [] S S := fI_rf
  refine (?_ : jf (fI [5] [] S) Prod.snd (f_X12_end S a1)) _ h
  unfold f_X12_end
  refine f_bp (fun x1 => ?_)
  refine f_ite ?_ ?_
  · refine f_ltS (fI_si hS (by decide)) (fun S2 hS2 => ?_)
    exact f_some hS2
  · exact f_some hS
abbrev rm_X12_fault : Room := { frames := 0, cells := 0, slots := 0, locals := 0 }
theorem kY_X12_fault : kY yX12_fault cX12_fault 1 (some .int) 0 := ⟨kw_1_13, kw_6_129, by decide, by decide, by decide +kernel⟩
def f_X12_fault (S : MS) : Option (Int32) :=
  some (S.1 7)
set_option maxRecDepth 100000 in
set_option maxHeartbeats 4000000 in
theorem c_X12_fault {g : KG} {q : Nat → Nat} {S : MS}  {r : Int32} (h : f_X12_fault S = some r) : ∀ l, kM l yX12_fault cX12_fault 1 (some .int) rm_X12_fault g [.ref (q 0)] (mw g q S) (mw g q S) (some (.int r)) 0 0 := by
  refine k_open_i (own := "MarkChainsModel") (by decide) rfl (Nat.le_of_ble_eq_true rfl) (fun X C hR => ?_)
  refine (?_ : jJ X g (r : Int32) (mw g q S) 0 0 0 [(0, .ref (q 0))] [] (f_X12_fault S)) h
  unfold f_X12_fault
  refine r_aload_n (pc := 0) C dX12_fault_0 0 rfl ?_
  refine mg_faultPlace (pc := 1) C dX12_fault_1 ?_
  exact r_retPI hR (pc := 4) dX12_fault_4
abbrev rm_X12_here : Room := { frames := 0, cells := 0, slots := 0, locals := 0 }
theorem kY_X12_here : kY yX12_here cX12_here 1 (some .int) 0 := ⟨kw_1_13, kw_6_149, by decide, by decide, by decide +kernel⟩
def f_X12_here (S : MS) : Option (Int32) :=
  (if (S.1 5) ≤ (S.1 6) then
  some (-1)
 else
  chk (S.1 6) 600 (
  some ((S.2 4 (S.1 6).toNatClampNeg) &&& 255)))
set_option maxRecDepth 100000 in
set_option maxHeartbeats 4000000 in
theorem c_X12_here {g : KG} {q : Nat → Nat} {S : MS}  {r : Int32} (h : f_X12_here S = some r) : ∀ l, kM l yX12_here cX12_here 1 (some .int) rm_X12_here g [.ref (q 0)] (mw g q S) (mw g q S) (some (.int r)) 0 0 := by
  refine k_open_i (own := "MarkChainsModel") (by decide) rfl (Nat.le_of_ble_eq_true rfl) (fun X C hR => ?_)
  refine (?_ : jJ X g (r : Int32) (mw g q S) 0 0 0 [(0, .ref (q 0))] [] (f_X12_here S)) h
  unfold f_X12_here
  refine r_aload_n (pc := 0) C dX12_here_0 0 rfl ?_
  refine mg_at (pc := 1) C dX12_here_1 ?_
  refine r_aload_n (pc := 4) C dX12_here_4 0 rfl ?_
  refine mg_taped (pc := 5) C dX12_here_5 ?_
  refine r_icmp_ge 27 (pc := 8) C dX12_here_8 (by decide) ?_ ?_
  · refine r_iconst (pc := 27) C dX12_here_27 (v := (-1)) (by decide) ?_
    exact r_retPI hR (pc := 28) dX12_here_28
  · refine r_aload_n (pc := 11) C dX12_here_11 0 rfl ?_
    refine mg_tape (pc := 12) C dX12_here_12 ?_
    refine r_aload_n (pc := 15) C dX12_here_15 0 rfl ?_
    refine mg_at (pc := 16) C dX12_here_16 ?_
    refine ml_tape (pc := 19) C dX12_here_19 ?_
    refine r_sipush (pc := 20) C dX12_here_20 (v := 255) (by decide) ?_
    refine r_iand (pc := 23) C dX12_here_23 ?_
    refine r_goto 28 (pc := 24) C dX12_here_24 (by decide) ?_
    exact r_retPI hR (pc := 28) dX12_here_28
abbrev rm_X12_isFigure : Room := { frames := 0, cells := 0, slots := 0, locals := 0 }
theorem kY_X12_isFigure : kY yX12_isFigure cX12_isFigure 1 (some .boolean) 1 := ⟨kw_1_13, kw_6_168, by decide, by decide, by decide +kernel⟩
def f_X12_isFigure (a0 : Int32) : Option (Bool) :=
  (if a0 < 48 then
  some false
 else
  (if 57 < a0 then
  some false
 else
  some true))
set_option maxRecDepth 100000 in
set_option maxHeartbeats 4000000 in
theorem c_X12_isFigure {g : KG} {ws : va_W} {a0 : Int32} {r : Bool} (h : f_X12_isFigure a0 = some r) : ∀ l, kM l yX12_isFigure cX12_isFigure 1 (some .boolean) rm_X12_isFigure g [.int a0] (ws) (ws) (some (.int (b2 r))) 0 0 := by
  refine k_open_z (own := "MarkChainsModel") (by decide) rfl (Nat.le_of_ble_eq_true rfl) (fun X C hR => ?_)
  refine (?_ : jJ X g (r : Bool) (ws) 0 0 0 [(0, .int a0)] [] (f_X12_isFigure a0)) h
  unfold f_X12_isFigure
  refine r_iload_n (pc := 0) C dX12_isFigure_0 0 rfl ?_
  refine r_bipush (pc := 1) C dX12_isFigure_1 (v := 48) (by decide) ?_
  refine r_icmp_lt 16 (pc := 3) C dX12_isFigure_3 (by decide) ?_ ?_
  · refine r_iconst (pc := 16) C dX12_isFigure_16 (v := 0) (by decide) ?_
    exact r_retPZ hR rfl (pc := 17) dX12_isFigure_17
  · refine r_iload_n (pc := 6) C dX12_isFigure_6 0 rfl ?_
    refine r_bipush (pc := 7) C dX12_isFigure_7 (v := 57) (by decide) ?_
    refine r_icmp_gt 16 (pc := 9) C dX12_isFigure_9 (by decide) ?_ ?_
    · refine r_iconst (pc := 16) C dX12_isFigure_16 (v := 0) (by decide) ?_
      exact r_retPZ hR rfl (pc := 17) dX12_isFigure_17
    · refine r_iconst (pc := 12) C dX12_isFigure_12 (v := 1) (by decide) ?_
      refine r_goto 17 (pc := 13) C dX12_isFigure_13 (by decide) ?_
      exact r_retPZ hR rfl (pc := 17) dX12_isFigure_17
abbrev rm_X12_fails : Room := { frames := 0, cells := 0, slots := 0, locals := 0 }
theorem kY_X12_fails : kY yX12_fails cX12_fails 2 (some .boolean) 1 := ⟨kw_1_13, kw_6_157, by decide, by decide, by decide +kernel⟩
def f_X12_fails (S : MS) (a1 : Int32) : Option (Bool × MS) :=
  lt (si S 7 a1) fun S1 =>
  some (false, S1)
set_option maxRecDepth 100000 in
set_option maxHeartbeats 4000000 in
theorem c_X12_fails {g : KG} {q : Nat → Nat} {S : MS} {a1 : Int32} {r : Bool} {S' : MS} (h : f_X12_fails S a1 = some (r, S')) : ∀ l, kM l yX12_fails cX12_fails 2 (some .boolean) rm_X12_fails g [.ref (q 0), .int a1] (mw g q S) (mw g q S') (some (.int (b2 r))) 0 0 := by
  refine k_open_z (own := "MarkChainsModel") (by decide) rfl (Nat.le_of_ble_eq_true rfl) (fun X C hR => ?_)
  refine (?_ : jJ X g ((r, S') : Bool × MS) (mw g q S) 0 0 0 [(0, .ref (q 0)), (1, .int a1)] [] (f_X12_fails S a1)) h
  unfold f_X12_fails
  refine r_aload_n (pc := 0) C dX12_fails_0 0 rfl ?_
  refine r_iload_n (pc := 1) C dX12_fails_1 1 rfl ?_
  refine mp_faultPlace (pc := 2) C dX12_fails_2 (fun S1 => ?_)
  refine r_iconst (pc := 5) C dX12_fails_5 (v := 0) (by decide) ?_
  exact r_retWZ hR rfl (pc := 6) dX12_fails_6
set_option maxRecDepth 100000 in
theorem w_X12_fails {S : MS} {a1 : Int32} {r : Bool} {S' : MS} (h : f_X12_fails S a1 = some (r, S')) : fI [7] [] S S' := by
  have hS : fI [7] [] S S := fI_rf
  refine (?_ : jf (fI [7] [] S) Prod.snd (f_X12_fails S a1)) _ h
  unfold f_X12_fails
  refine f_ltS (fI_si hS (by decide)) (fun S1 hS1 => ?_)
  exact f_some hS1
abbrev rm_X12_takes : Room := { frames := 1, cells := 0, slots := 0, locals := 21 }
theorem kY_X12_takes : kY yX12_takes cX12_takes 2 (some .boolean) 1 := ⟨kw_1_13, kw_6_172, by decide, by decide, by decide +kernel⟩
def f_X12_takes (S : MS) (a1 : Int32) : Option (Bool × MS) :=
  bp (f_X12_here S) (fun x1 =>
  (if x1 = a1 then
  lt (si S 6 ((S.1 6) + 1)) fun S2 =>
  some (true, S2)
 else
  bw (f_X12_fails S (S.1 6)) (fun x3 S4 =>
  some (x3, S4))))
set_option maxRecDepth 100000 in
set_option maxHeartbeats 4000000 in
theorem c_X12_takes {g : KG} {q : Nat → Nat} {S : MS} {a1 : Int32} {r : Bool} {S' : MS} (h : f_X12_takes S a1 = some (r, S')) : ∀ l, kM l yX12_takes cX12_takes 2 (some .boolean) rm_X12_takes g [.ref (q 0), .int a1] (mw g q S) (mw g q S') (some (.int (b2 r))) 0 0 := by
  refine k_open_z (own := "MarkChainsModel") (by decide) rfl (Nat.le_of_ble_eq_true rfl) (fun X C hR => ?_)
  refine (?_ : jJ X g ((r, S') : Bool × MS) (mw g q S) 0 0 0 [(0, .ref (q 0)), (1, .int a1)] [] (f_X12_takes S a1)) h
  unfold f_X12_takes
  refine r_aload_n (pc := 0) C dX12_takes_0 0 rfl ?_
  refine r_cVpi (As := []) (st := []) (pc := 1) C (fun _ h => c_X12_here h) kY_X12_here kw_6_148 kw_0_41 kw_6_146 rfl ⟨Nat.le_of_ble_eq_true rfl, Nat.le_of_ble_eq_true rfl⟩ rfl rfl ⟨Nat.zero_le _, Nat.zero_le _⟩ 0 rfl rfl rfl (Nat.le_of_ble_eq_true rfl) dX12_takes_1 (fun x1 => ?_)
  refine r_iload_n (pc := 4) C dX12_takes_4 1 rfl ?_
  refine r_icmp_eq 17 (pc := 5) C dX12_takes_5 (by decide) ?_ ?_
  · refine r_aload_n (pc := 17) C dX12_takes_17 0 rfl ?_
    refine r_dup (pc := 18) C dX12_takes_18 rfl ?_
    refine mg_at (pc := 19) C dX12_takes_19 ?_
    refine r_iconst (pc := 22) C dX12_takes_22 (v := 1) (by decide) ?_
    refine r_iadd (pc := 23) C dX12_takes_23 ?_
    refine mp_at (pc := 24) C dX12_takes_24 (fun S2 => ?_)
    refine r_iconst (pc := 27) C dX12_takes_27 (v := 1) (by decide) ?_
    exact r_retWZ hR rfl (pc := 28) dX12_takes_28
  · refine r_aload_n (pc := 8) C dX12_takes_8 0 rfl ?_
    refine r_aload_n (pc := 9) C dX12_takes_9 0 rfl ?_
    refine mg_at (pc := 10) C dX12_takes_10 ?_
    refine r_cVwz (As := [.int (S.1 6)]) (st := []) (wf := mw g q) (pc := 13) C (fun _ _ h => c_X12_fails h) kY_X12_fails kw_6_156 kw_0_43 kw_6_154 rfl ⟨Nat.le_of_ble_eq_true rfl, Nat.le_of_ble_eq_true rfl⟩ rfl rfl ⟨Nat.zero_le _, Nat.zero_le _⟩ 0 rfl rfl rfl (Nat.le_of_ble_eq_true rfl) dX12_takes_13 (fun x3 S4 => ?_)
    exact r_retWZ hR rfl (pc := 16) dX12_takes_16
set_option maxRecDepth 100000 in
theorem w_X12_takes {S : MS} {a1 : Int32} {r : Bool} {S' : MS} (h : f_X12_takes S a1 = some (r, S')) : fI [6, 7] [] S S' := by
  have hS : fI [6, 7] [] S S := fI_rf
  refine (?_ : jf (fI [6, 7] [] S) Prod.snd (f_X12_takes S a1)) _ h
  unfold f_X12_takes
  refine f_bp (fun x1 => ?_)
  refine f_ite ?_ ?_
  · refine f_ltS (fI_si hS (by decide)) (fun S2 hS2 => ?_)
    exact f_some hS2
  · refine f_bwS (fun _ _ h => fI_tr hS (w_X12_fails h) (by decide) (by decide)) (fun x3 S4 hS4 => ?_)
    exact f_some hS4
abbrev rm_X12_readDigits : Room := { frames := 1, cells := 0, slots := 0, locals := 21 }
theorem kY_X12_readDigits : kY yX12_readDigits cX12_readDigits 2 (some .boolean) 0 := ⟨kw_1_13, kw_6_165, by decide, by decide, by decide +kernel⟩
def L_X12_readDigits_29 (c1 : Int32) (k8 : MS → Option (Bool × MS)) : Nat → MS → Option (Bool × MS) := lo1 fun rec6 S5 =>
  bp (f_X12_here S5) (fun x10 =>
  bp (f_X12_isFigure x10) (fun x11 =>
  (if x11 = true then
  (if 7 ≤ ((S5.1 6) - c1) then
  k8 S5
 else
  bp (f_X12_here S5) (fun x12 =>
  lt (si S5 8 (((10 * (S5.1 8)) + x12) - 48)) fun S13 =>
  lt (si S13 6 ((S13.1 6) + 1)) fun S14 =>
  rec6 S14))
 else
  k8 S5)))
set_option maxRecDepth 100000 in
set_option maxHeartbeats 4000000 in
theorem l_X12_readDigits_29 {X : KX} {g : KG} {q : Nat → Nat} {res : Bool × MS} (C : kC X g cX12_readDigits "MarkChainsModel" rm_X12_readDigits 2) (hR : ∀ (pc : Nat) (lv : List (Nat × Value)), decode cX12_readDigits pc = .ok (.ireturn, 1) → jW X g (mw g q res.2) 0 0 pc lv [.int (b2 res.1)]) (c1 : Int32) (k8 : MS → Option (Bool × MS)) (hk9 : ∀ (S15 : MS), jJ X g res (mw g q S15) 0 0 82 [(0, .ref (q 0))] [] (k8 S15)) : ∀ (n : Nat) (S5 : MS), jJ X g res (mw g q S5) 0 0 29 [(0, .ref (q 0)), (1, .int c1)] [] (L_X12_readDigits_29 c1 k8 n S5) := by
  refine r_lo1 (fun S5 => mw g q S5) (fun S5 => [(0, .ref (q 0)), (1, .int c1)]) (fun rec6 ih7 S5 => ?_)
  refine r_aload_n (pc := 29) C dX12_readDigits_29 0 rfl ?_
  refine r_cVpi (As := []) (st := []) (pc := 30) C (fun _ h => c_X12_here h) kY_X12_here kw_6_148 kw_0_41 kw_6_146 rfl ⟨Nat.le_of_ble_eq_true rfl, Nat.le_of_ble_eq_true rfl⟩ rfl rfl ⟨Nat.zero_le _, Nat.zero_le _⟩ 0 rfl rfl rfl (Nat.le_of_ble_eq_true rfl) dX12_readDigits_30 (fun x10 => ?_)
  refine r_cSpz (As := [.int x10]) (st := []) (pc := 33) C (fun _ h => c_X12_isFigure h) kY_X12_isFigure kw_6_167 kw_6_166 rfl ⟨Nat.le_of_ble_eq_true rfl, Nat.le_of_ble_eq_true rfl⟩ rfl rfl ⟨Nat.zero_le _, Nat.zero_le _⟩ rfl (Nat.le_of_ble_eq_true rfl) dX12_readDigits_33 (fun x11 => ?_)
  refine r_ifb_eq 82 (pc := 36) C dX12_readDigits_36 (by decide) ?_ ?_
  · refine r_sub (lv' := [(0, .ref (q 0))]) [0] rfl ?_
    exact hk9 S5
  · refine r_aload_n (pc := 39) C dX12_readDigits_39 0 rfl ?_
    refine mg_at (pc := 40) C dX12_readDigits_40 ?_
    refine r_iload_n (pc := 43) C dX12_readDigits_43 1 rfl ?_
    refine r_isub (pc := 44) C dX12_readDigits_44 ?_
    refine r_bipush (pc := 45) C dX12_readDigits_45 (v := 7) (by decide) ?_
    refine r_icmp_ge 82 (pc := 47) C dX12_readDigits_47 (by decide) ?_ ?_
    · refine r_sub (lv' := [(0, .ref (q 0))]) [0] rfl ?_
      exact hk9 S5
    · refine r_aload_n (pc := 50) C dX12_readDigits_50 0 rfl ?_
      refine r_bipush (pc := 51) C dX12_readDigits_51 (v := 10) (by decide) ?_
      refine r_aload_n (pc := 53) C dX12_readDigits_53 0 rfl ?_
      refine mg_number (pc := 54) C dX12_readDigits_54 ?_
      refine r_imul (pc := 57) C dX12_readDigits_57 ?_
      refine r_aload_n (pc := 58) C dX12_readDigits_58 0 rfl ?_
      refine r_cVpi (As := []) (st := [.int (10 * (S5.1 8)), .ref (q 0)]) (pc := 59) C (fun _ h => c_X12_here h) kY_X12_here kw_6_148 kw_0_41 kw_6_146 rfl ⟨Nat.le_of_ble_eq_true rfl, Nat.le_of_ble_eq_true rfl⟩ rfl rfl ⟨Nat.zero_le _, Nat.zero_le _⟩ 0 rfl rfl rfl (Nat.le_of_ble_eq_true rfl) dX12_readDigits_59 (fun x12 => ?_)
      refine r_iadd (pc := 62) C dX12_readDigits_62 ?_
      refine r_bipush (pc := 63) C dX12_readDigits_63 (v := 48) (by decide) ?_
      refine r_isub (pc := 65) C dX12_readDigits_65 ?_
      refine mp_number (pc := 66) C dX12_readDigits_66 (fun S13 => ?_)
      refine r_aload_n (pc := 69) C dX12_readDigits_69 0 rfl ?_
      refine r_dup (pc := 70) C dX12_readDigits_70 rfl ?_
      refine mg_at (pc := 71) C dX12_readDigits_71 ?_
      refine r_iconst (pc := 74) C dX12_readDigits_74 (v := 1) (by decide) ?_
      refine r_iadd (pc := 75) C dX12_readDigits_75 ?_
      refine mp_at (pc := 76) C dX12_readDigits_76 (fun S14 => ?_)
      refine r_goto 29 (pc := 79) C dX12_readDigits_79 (by decide) ?_
      exact ih7 S14
set_option maxRecDepth 100000 in
theorem v_X12_readDigits_29 {S0 : MS} {c1 : Int32} {k8 : MS → Option (Bool × MS)} (hk9 : ∀ (S15 : MS), (fI [6, 7, 8] [] S0) S15 → jf (fI [6, 7, 8] [] S0) Prod.snd (k8 S15)) : ∀ (n : Nat) (S5 : MS), (fI [6, 7, 8] [] S0) S5 → jf (fI [6, 7, 8] [] S0) Prod.snd (L_X12_readDigits_29 c1 k8 n S5) := by
  refine f_lo1 (I := (fI [6, 7, 8] [] S0)) (fun S5 => S5) (fun rec6 ih7 S5 hS5 => ?_)
  refine f_bp (fun x10 => ?_)
  refine f_bp (fun x11 => ?_)
  refine f_ite ?_ ?_
  · refine f_ite ?_ ?_
    · exact hk9 S5 hS5
    · refine f_bp (fun x12 => ?_)
      refine f_ltS (fI_si hS5 (by decide)) (fun S13 hS13 => ?_)
      refine f_ltS (fI_si hS13 (by decide)) (fun S14 hS14 => ?_)
      exact ih7 S14 hS14
  · exact hk9 S5 hS5
def f_X12_readDigits (S : MS) : Option (Bool × MS) :=
  bp (f_X12_here S) (fun x1 =>
  bp (f_X12_isFigure x1) (fun x2 =>
  (if x2 = true then
  lt (S.1 6) fun x3 =>
  lt (si S 8 0) fun S4 =>
  L_X12_readDigits_29 x3 (fun S16 =>
  bp (f_X12_here S16) (fun x17 =>
  bp (f_X12_isFigure x17) (fun x18 =>
  (if x18 = true then
  bw (f_X12_fails S16 (S16.1 6)) (fun x19 S20 =>
  (if x19 = true then
  some (true, S20)
 else
  some (false, S20)))
 else
  some (true, S16))))) FU S4
 else
  bw (f_X12_fails S (S.1 6)) (fun x21 S22 =>
  some (x21, S22)))))
set_option maxRecDepth 100000 in
set_option maxHeartbeats 4000000 in
theorem c_X12_readDigits {g : KG} {q : Nat → Nat} {S : MS}  {r : Bool} {S' : MS} (h : f_X12_readDigits S = some (r, S')) : ∀ l, kM l yX12_readDigits cX12_readDigits 2 (some .boolean) rm_X12_readDigits g [.ref (q 0)] (mw g q S) (mw g q S') (some (.int (b2 r))) 0 0 := by
  refine k_open_z (own := "MarkChainsModel") (by decide) rfl (Nat.le_of_ble_eq_true rfl) (fun X C hR => ?_)
  refine (?_ : jJ X g ((r, S') : Bool × MS) (mw g q S) 0 0 0 [(0, .ref (q 0))] [] (f_X12_readDigits S)) h
  unfold f_X12_readDigits
  refine r_aload_n (pc := 0) C dX12_readDigits_0 0 rfl ?_
  refine r_cVpi (As := []) (st := []) (pc := 1) C (fun _ h => c_X12_here h) kY_X12_here kw_6_148 kw_0_41 kw_6_146 rfl ⟨Nat.le_of_ble_eq_true rfl, Nat.le_of_ble_eq_true rfl⟩ rfl rfl ⟨Nat.zero_le _, Nat.zero_le _⟩ 0 rfl rfl rfl (Nat.le_of_ble_eq_true rfl) dX12_readDigits_1 (fun x1 => ?_)
  refine r_cSpz (As := [.int x1]) (st := []) (pc := 4) C (fun _ h => c_X12_isFigure h) kY_X12_isFigure kw_6_167 kw_6_166 rfl ⟨Nat.le_of_ble_eq_true rfl, Nat.le_of_ble_eq_true rfl⟩ rfl rfl ⟨Nat.zero_le _, Nat.zero_le _⟩ rfl (Nat.le_of_ble_eq_true rfl) dX12_readDigits_4 (fun x2 => ?_)
  refine r_ifb_ne 19 (pc := 7) C dX12_readDigits_7 (by decide) ?_ ?_
  · refine r_aload_n (pc := 19) C dX12_readDigits_19 0 rfl ?_
    refine mg_at (pc := 20) C dX12_readDigits_20 ?_
    refine r_istoreV_n (pc := 23) C dX12_readDigits_23 (lv' := fun x3 => [(0, .ref (q 0)), (1, .int x3)]) (by decide) [1, 0] (fun _ => rfl) (fun x3 => ?_)
    refine r_aload_n (pc := 24) C dX12_readDigits_24 0 rfl ?_
    refine r_iconst (pc := 25) C dX12_readDigits_25 (v := 0) (by decide) ?_
    refine mp_number (pc := 26) C dX12_readDigits_26 (fun S4 => ?_)
    refine l_X12_readDigits_29 C hR x3 _ (fun S16 => ?_) FU S4
    refine r_aload_n (pc := 82) C dX12_readDigits_82 0 rfl ?_
    refine r_cVpi (As := []) (st := []) (pc := 83) C (fun _ h => c_X12_here h) kY_X12_here kw_6_148 kw_0_41 kw_6_146 rfl ⟨Nat.le_of_ble_eq_true rfl, Nat.le_of_ble_eq_true rfl⟩ rfl rfl ⟨Nat.zero_le _, Nat.zero_le _⟩ 0 rfl rfl rfl (Nat.le_of_ble_eq_true rfl) dX12_readDigits_83 (fun x17 => ?_)
    refine r_cSpz (As := [.int x17]) (st := []) (pc := 86) C (fun _ h => c_X12_isFigure h) kY_X12_isFigure kw_6_167 kw_6_166 rfl ⟨Nat.le_of_ble_eq_true rfl, Nat.le_of_ble_eq_true rfl⟩ rfl rfl ⟨Nat.zero_le _, Nat.zero_le _⟩ rfl (Nat.le_of_ble_eq_true rfl) dX12_readDigits_86 (fun x18 => ?_)
    refine r_ifb_eq 103 (pc := 89) C dX12_readDigits_89 (by decide) ?_ ?_
    · refine r_iconst (pc := 103) C dX12_readDigits_103 (v := 1) (by decide) ?_
      refine r_goto 108 (pc := 104) C dX12_readDigits_104 (by decide) ?_
      exact r_retWZ hR rfl (pc := 108) dX12_readDigits_108
    · refine r_aload_n (pc := 92) C dX12_readDigits_92 0 rfl ?_
      refine r_aload_n (pc := 93) C dX12_readDigits_93 0 rfl ?_
      refine mg_at (pc := 94) C dX12_readDigits_94 ?_
      refine r_cVwz (As := [.int (S16.1 6)]) (st := []) (wf := mw g q) (pc := 97) C (fun _ _ h => c_X12_fails h) kY_X12_fails kw_6_156 kw_0_43 kw_6_154 rfl ⟨Nat.le_of_ble_eq_true rfl, Nat.le_of_ble_eq_true rfl⟩ rfl rfl ⟨Nat.zero_le _, Nat.zero_le _⟩ 0 rfl rfl rfl (Nat.le_of_ble_eq_true rfl) dX12_readDigits_97 (fun x19 S20 => ?_)
      refine r_ifb_eq 107 (pc := 100) C dX12_readDigits_100 (by decide) ?_ ?_
      · refine r_iconst (pc := 107) C dX12_readDigits_107 (v := 0) (by decide) ?_
        exact r_retWZ hR rfl (pc := 108) dX12_readDigits_108
      · refine r_iconst (pc := 103) C dX12_readDigits_103 (v := 1) (by decide) ?_
        refine r_goto 108 (pc := 104) C dX12_readDigits_104 (by decide) ?_
        exact r_retWZ hR rfl (pc := 108) dX12_readDigits_108
  · refine r_aload_n (pc := 10) C dX12_readDigits_10 0 rfl ?_
    refine r_aload_n (pc := 11) C dX12_readDigits_11 0 rfl ?_
    refine mg_at (pc := 12) C dX12_readDigits_12 ?_
    refine r_cVwz (As := [.int (S.1 6)]) (st := []) (wf := mw g q) (pc := 15) C (fun _ _ h => c_X12_fails h) kY_X12_fails kw_6_156 kw_0_43 kw_6_154 rfl ⟨Nat.le_of_ble_eq_true rfl, Nat.le_of_ble_eq_true rfl⟩ rfl rfl ⟨Nat.zero_le _, Nat.zero_le _⟩ 0 rfl rfl rfl (Nat.le_of_ble_eq_true rfl) dX12_readDigits_15 (fun x21 S22 => ?_)
    exact r_retWZ hR rfl (pc := 18) dX12_readDigits_18
set_option maxRecDepth 100000 in
theorem w_X12_readDigits {S : MS}  {r : Bool} {S' : MS} (h : f_X12_readDigits S = some (r, S')) : fI [6, 7, 8] [] S S' := by
  have hS : fI [6, 7, 8] [] S S := fI_rf
  refine (?_ : jf (fI [6, 7, 8] [] S) Prod.snd (f_X12_readDigits S)) _ h
  unfold f_X12_readDigits
  refine f_bp (fun x1 => ?_)
  refine f_bp (fun x2 => ?_)
  refine f_ite ?_ ?_
  · refine f_lt (fun x3 => ?_)
    refine f_ltS (fI_si hS (by decide)) (fun S4 hS4 => ?_)
    refine v_X12_readDigits_29 (fun S16 hS16 => ?_) FU S4 hS4
    refine f_bp (fun x17 => ?_)
    refine f_bp (fun x18 => ?_)
    refine f_ite ?_ ?_
    · refine f_bwS (fun _ _ h => fI_tr hS16 (w_X12_fails h) (by decide) (by decide)) (fun x19 S20 hS20 => ?_)
      refine f_ite ?_ ?_
      · exact f_some hS20
      · exact f_some hS20
    · exact f_some hS16
  · refine f_bwS (fun _ _ h => fI_tr hS (w_X12_fails h) (by decide) (by decide)) (fun x21 S22 hS22 => ?_)
    exact f_some hS22
abbrev rm_X12_readNumber : Room := { frames := 2, cells := 0, slots := 0, locals := 42 }
theorem kY_X12_readNumber : kY yX12_readNumber cX12_readNumber 7 (some .boolean) 3 := ⟨kw_1_13, kw_6_161, by decide, by decide, by decide +kernel⟩
def f_X12_readNumber (S : MS) (a1 : Int32) (a2 : Int32) (a3 : Int32) : Option (Bool × MS) :=
  lt (S.1 6) fun x1 =>
  bp (f_X12_here S) (fun x2 =>
  jn1 (fun (x3 : Int32) =>
  jn1 (fun (S4 : MS) =>
  bw (f_X12_readDigits S4) (fun x5 S6 =>
  (if x5 = true then
  jn1 (fun (x7 : Int32) =>
  bp (f_X12_isIn x7 a2 a3) (fun x8 =>
  (if x8 = true then
  chk a1 1177 (lt (sa S6 0 (upd (S6.2 0) a1.toNatClampNeg x7)) fun S9 =>
  some (true, S9))
 else
  bw (f_X12_fails S6 x1) (fun x10 S11 =>
  some (x10, S11))))) (fun k12 =>
  (if x3 = 0 then
  k12 (S6.1 8)
 else
  k12 (-(S6.1 8))))
 else
  some (false, S6)))) (fun k14 =>
  (if x3 = 0 then
  k14 S
 else
  lt (si S 6 ((S.1 6) + 1)) fun S16 =>
  k14 S16))) (fun k17 =>
  (if x2 = 45 then
  k17 1
 else
  k17 0)))
set_option maxRecDepth 100000 in
set_option maxHeartbeats 4000000 in
theorem c_X12_readNumber {g : KG} {q : Nat → Nat} {S : MS} {a1 : Int32} {a2 : Int32} {a3 : Int32} {r : Bool} {S' : MS} (h : f_X12_readNumber S a1 a2 a3 = some (r, S')) : ∀ l, kM l yX12_readNumber cX12_readNumber 7 (some .boolean) rm_X12_readNumber g [.ref (q 0), .int a1, .int a2, .int a3] (mw g q S) (mw g q S') (some (.int (b2 r))) 0 0 := by
  refine k_open_z (own := "MarkChainsModel") (by decide) rfl (Nat.le_of_ble_eq_true rfl) (fun X C hR => ?_)
  refine (?_ : jJ X g ((r, S') : Bool × MS) (mw g q S) 0 0 0 [(0, .ref (q 0)), (1, .int a1), (2, .int a2), (3, .int a3)] [] (f_X12_readNumber S a1 a2 a3)) h
  unfold f_X12_readNumber
  refine r_aload_n (pc := 0) C dX12_readNumber_0 0 rfl ?_
  refine mg_at (pc := 1) C dX12_readNumber_1 ?_
  refine r_istoreV (pc := 4) C dX12_readNumber_4 (lv' := fun x1 => [(0, .ref (q 0)), (1, .int a1), (2, .int a2), (3, .int a3), (4, .int x1)]) (by decide) [1, 2, 3, 4, 0] (fun _ => rfl) (fun x1 => ?_)
  refine r_aload_n (pc := 6) C dX12_readNumber_6 0 rfl ?_
  refine r_cVpi (As := []) (st := []) (pc := 7) C (fun _ h => c_X12_here h) kY_X12_here kw_6_148 kw_0_41 kw_6_146 rfl ⟨Nat.le_of_ble_eq_true rfl, Nat.le_of_ble_eq_true rfl⟩ rfl rfl ⟨Nat.zero_le _, Nat.zero_le _⟩ 0 rfl rfl rfl (Nat.le_of_ble_eq_true rfl) dX12_readNumber_7 (fun x2 => ?_)
  refine r_bipush (pc := 10) C dX12_readNumber_10 (v := 45) (by decide) ?_
  refine r_jn1 20 (fun (x3 : Int32) => mw g q S) (fun (x3 : Int32) => [(0, .ref (q 0)), (1, .int a1), (2, .int a2), (3, .int a3), (4, .int x1)]) (fun (x3 : Int32) => [.int x3]) (fun x3 => ?_) (fun k17 hk18 => ?_)
  · refine r_istore (pc := 20) C dX12_readNumber_20 (lv' := [(0, .ref (q 0)), (1, .int a1), (2, .int a2), (3, .int a3), (4, .int x1), (5, .int x3)]) (by decide) [1, 2, 3, 4, 5, 0] rfl ?_
    refine r_iload (pc := 22) C dX12_readNumber_22 5 rfl ?_
    refine r_jn1 37 (fun (S4 : MS) => mw g q S4) (fun (S4 : MS) => [(0, .ref (q 0)), (1, .int a1), (2, .int a2), (3, .int a3), (4, .int x1), (5, .int x3)]) (fun (S4 : MS) => []) (fun S4 => ?_) (fun k14 hk15 => ?_)
    · refine r_aload_n (pc := 37) C dX12_readNumber_37 0 rfl ?_
      refine r_cVwz (As := []) (st := []) (wf := mw g q) (pc := 38) C (fun _ _ h => c_X12_readDigits h) kY_X12_readDigits kw_6_164 kw_0_45 kw_6_162 rfl ⟨Nat.le_of_ble_eq_true rfl, Nat.le_of_ble_eq_true rfl⟩ rfl rfl ⟨Nat.zero_le _, Nat.zero_le _⟩ 0 rfl rfl rfl (Nat.le_of_ble_eq_true rfl) dX12_readNumber_38 (fun x5 S6 => ?_)
      refine r_ifb_ne 46 (pc := 41) C dX12_readNumber_41 (by decide) ?_ ?_
      · refine r_iload (pc := 46) C dX12_readNumber_46 5 rfl ?_
        refine r_jn1 63 (fun (x7 : Int32) => mw g q S6) (fun (x7 : Int32) => [(0, .ref (q 0)), (1, .int a1), (2, .int a2), (3, .int a3), (4, .int x1)]) (fun (x7 : Int32) => [.int x7]) (fun x7 => ?_) (fun k12 hk13 => ?_)
        · refine r_istore (pc := 63) C dX12_readNumber_63 (lv' := [(0, .ref (q 0)), (1, .int a1), (2, .int a2), (3, .int a3), (4, .int x1), (6, .int x7)]) (by decide) [1, 2, 3, 4, 5, 0] rfl ?_
          refine r_iload (pc := 65) C dX12_readNumber_65 5 rfl ?_
          refine r_iload_n (pc := 67) C dX12_readNumber_67 2 rfl ?_
          refine r_iload_n (pc := 68) C dX12_readNumber_68 3 rfl ?_
          refine r_cSpz (As := [.int x7, .int a2, .int a3]) (st := []) (pc := 69) C (fun _ h => c_X12_isIn h) kY_X12_isIn kw_6_124 kw_6_123 rfl ⟨Nat.le_of_ble_eq_true rfl, Nat.le_of_ble_eq_true rfl⟩ rfl rfl ⟨Nat.zero_le _, Nat.zero_le _⟩ rfl (Nat.le_of_ble_eq_true rfl) dX12_readNumber_69 (fun x8 => ?_)
          refine r_ifb_ne 82 (pc := 72) C dX12_readNumber_72 (by decide) ?_ ?_
          · refine r_aload_n (pc := 82) C dX12_readNumber_82 0 rfl ?_
            refine mg_all (pc := 83) C dX12_readNumber_83 ?_
            refine r_iload_n (pc := 86) C dX12_readNumber_86 1 rfl ?_
            refine r_iload (pc := 87) C dX12_readNumber_87 5 rfl ?_
            refine ms_all (pc := 89) C dX12_readNumber_89 (fun S9 => ?_)
            refine r_iconst (pc := 90) C dX12_readNumber_90 (v := 1) (by decide) ?_
            exact r_retWZ hR rfl (pc := 91) dX12_readNumber_91
          · refine r_aload_n (pc := 75) C dX12_readNumber_75 0 rfl ?_
            refine r_iload (pc := 76) C dX12_readNumber_76 4 rfl ?_
            refine r_cVwz (As := [.int x1]) (st := []) (wf := mw g q) (pc := 78) C (fun _ _ h => c_X12_fails h) kY_X12_fails kw_6_156 kw_0_43 kw_6_154 rfl ⟨Nat.le_of_ble_eq_true rfl, Nat.le_of_ble_eq_true rfl⟩ rfl rfl ⟨Nat.zero_le _, Nat.zero_le _⟩ 0 rfl rfl rfl (Nat.le_of_ble_eq_true rfl) dX12_readNumber_78 (fun x10 S11 => ?_)
            exact r_retWZ hR rfl (pc := 81) dX12_readNumber_81
        · refine r_if_eq 59 (pc := 48) C dX12_readNumber_48 (by decide) ?_ ?_
          · refine r_aload_n (pc := 59) C dX12_readNumber_59 0 rfl ?_
            refine mg_number (pc := 60) C dX12_readNumber_60 ?_
            refine r_sub (lv' := [(0, .ref (q 0)), (1, .int a1), (2, .int a2), (3, .int a3), (4, .int x1)]) [0, 1, 2, 3, 4] rfl ?_
            exact hk13 (S6.1 8)
          · refine r_aload_n (pc := 51) C dX12_readNumber_51 0 rfl ?_
            refine mg_number (pc := 52) C dX12_readNumber_52 ?_
            refine r_ineg (pc := 55) C dX12_readNumber_55 ?_
            refine r_goto 63 (pc := 56) C dX12_readNumber_56 (by decide) ?_
            refine r_sub (lv' := [(0, .ref (q 0)), (1, .int a1), (2, .int a2), (3, .int a3), (4, .int x1)]) [0, 1, 2, 3, 4] rfl ?_
            exact hk13 (-(S6.1 8))
      · refine r_iconst (pc := 44) C dX12_readNumber_44 (v := 0) (by decide) ?_
        exact r_retWZ hR rfl (pc := 45) dX12_readNumber_45
    · refine r_if_eq 37 (pc := 24) C dX12_readNumber_24 (by decide) ?_ ?_
      · exact hk15 S
      · refine r_aload_n (pc := 27) C dX12_readNumber_27 0 rfl ?_
        refine r_dup (pc := 28) C dX12_readNumber_28 rfl ?_
        refine mg_at (pc := 29) C dX12_readNumber_29 ?_
        refine r_iconst (pc := 32) C dX12_readNumber_32 (v := 1) (by decide) ?_
        refine r_iadd (pc := 33) C dX12_readNumber_33 ?_
        refine mp_at (pc := 34) C dX12_readNumber_34 (fun S16 => ?_)
        exact hk15 S16
  · refine r_icmp_ne 19 (pc := 12) C dX12_readNumber_12 (by decide) ?_ ?_
    · refine r_iconst (pc := 19) C dX12_readNumber_19 (v := 0) (by decide) ?_
      exact hk18 0
    · refine r_iconst (pc := 15) C dX12_readNumber_15 (v := 1) (by decide) ?_
      refine r_goto 20 (pc := 16) C dX12_readNumber_16 (by decide) ?_
      exact hk18 1
set_option maxRecDepth 100000 in
theorem w_X12_readNumber {S : MS} {a1 : Int32} {a2 : Int32} {a3 : Int32} {r : Bool} {S' : MS} (h : f_X12_readNumber S a1 a2 a3 = some (r, S')) : fI [6, 7, 8] [0] S S' := by
  have hS : fI [6, 7, 8] [0] S S := fI_rf
  refine (?_ : jf (fI [6, 7, 8] [0] S) Prod.snd (f_X12_readNumber S a1 a2 a3)) _ h
  unfold f_X12_readNumber
  refine f_lt (fun x1 => ?_)
  refine f_bp (fun x2 => ?_)
  refine f_jm1 hS (fun x3 hS => ?_) (fun k17 hk18 => ?_)
  · refine f_jn1 (fun S4 hS4 => ?_) (fun k14 hk15 => ?_)
    · refine f_bwS (fun _ _ h => fI_tr hS4 (w_X12_readDigits h) (by decide) (by decide)) (fun x5 S6 hS6 => ?_)
      refine f_ite ?_ ?_
      · refine f_jm1 hS6 (fun x7 hS6 => ?_) (fun k12 hk13 => ?_)
        · refine f_bp (fun x8 => ?_)
          refine f_ite ?_ ?_
          · refine f_chk (f_ltS (fI_sa hS6 (by decide)) (fun S9 hS9 => ?_))
            exact f_some hS9
          · refine f_bwS (fun _ _ h => fI_tr hS6 (w_X12_fails h) (by decide) (by decide)) (fun x10 S11 hS11 => ?_)
            exact f_some hS11
        · refine f_ite ?_ ?_
          · exact hk13 (S6.1 8) hS6
          · exact hk13 (-(S6.1 8)) hS6
      · exact f_some hS6
    · refine f_ite ?_ ?_
      · exact hk15 S hS
      · refine f_ltS (fI_si hS (by decide)) (fun S16 hS16 => ?_)
        exact hk15 S16 hS16
  · refine f_ite ?_ ?_
    · exact hk18 1 hS
    · exact hk18 0 hS
abbrev rm_X12_readTwo : Room := { frames := 3, cells := 0, slots := 0, locals := 68 }
theorem kY_X12_readTwo : kY yX12_readTwo cX12_readTwo 9 (some .boolean) 7 := ⟨kw_1_13, kw_6_153, by decide, by decide, by decide +kernel⟩
def f_X12_readTwo (S : MS) (a1 : Int32) (a2 : Int32) (a3 : Int32) (a4 : Int32) (a5 : Int32) (a6 : Int32) (a7 : Int32) : Option (Bool × MS) :=
  chk a1 1177 (
  (if (S.2 0 a1.toNatClampNeg) = a3 then
  bw (f_X12_fails S (S.1 6)) (fun x12 S13 =>
  some (x12, S13))
 else
  lt (si S 6 ((S.1 6) + 1)) fun S1 =>
  chk a1 1177 (
  lt (a2 + (2 * (S1.2 0 a1.toNatClampNeg))) fun x2 =>
  bw (f_X12_readNumber S1 x2 a4 a5) (fun x3 S4 =>
  (if x3 = true then
  bw (f_X12_takes S4 44) (fun x5 S6 =>
  (if x5 = true then
  bw (f_X12_readNumber S6 (x2 + 1) a6 a7) (fun x7 S8 =>
  (if x7 = true then
  chk a1 1177 (
  chk a1 1177 (lt (sa S8 0 (upd (S8.2 0) a1.toNatClampNeg ((S8.2 0 a1.toNatClampNeg) + 1))) fun S9 =>
  bw (f_X12_takes S9 59) (fun x10 S11 =>
  some (x10, S11))))
 else
  some (false, S8)))
 else
  some (false, S6)))
 else
  some (false, S4))))))
set_option maxRecDepth 100000 in
set_option maxHeartbeats 4000000 in
theorem c_X12_readTwo {g : KG} {q : Nat → Nat} {S : MS} {a1 : Int32} {a2 : Int32} {a3 : Int32} {a4 : Int32} {a5 : Int32} {a6 : Int32} {a7 : Int32} {r : Bool} {S' : MS} (h : f_X12_readTwo S a1 a2 a3 a4 a5 a6 a7 = some (r, S')) : ∀ l, kM l yX12_readTwo cX12_readTwo 9 (some .boolean) rm_X12_readTwo g [.ref (q 0), .int a1, .int a2, .int a3, .int a4, .int a5, .int a6, .int a7] (mw g q S) (mw g q S') (some (.int (b2 r))) 0 0 := by
  refine k_open_z (own := "MarkChainsModel") (by decide) rfl (Nat.le_of_ble_eq_true rfl) (fun X C hR => ?_)
  refine (?_ : jJ X g ((r, S') : Bool × MS) (mw g q S) 0 0 0 [(0, .ref (q 0)), (1, .int a1), (2, .int a2), (3, .int a3), (4, .int a4), (5, .int a5), (6, .int a6), (7, .int a7)] [] (f_X12_readTwo S a1 a2 a3 a4 a5 a6 a7)) h
  unfold f_X12_readTwo
  refine r_aload_n (pc := 0) C dX12_readTwo_0 0 rfl ?_
  refine mg_all (pc := 1) C dX12_readTwo_1 ?_
  refine r_iload_n (pc := 4) C dX12_readTwo_4 1 rfl ?_
  refine ml_all (pc := 5) C dX12_readTwo_5 ?_
  refine r_iload_n (pc := 6) C dX12_readTwo_6 3 rfl ?_
  refine r_icmp_ne 19 (pc := 7) C dX12_readTwo_7 (by decide) ?_ ?_
  · refine r_aload_n (pc := 19) C dX12_readTwo_19 0 rfl ?_
    refine r_dup (pc := 20) C dX12_readTwo_20 rfl ?_
    refine mg_at (pc := 21) C dX12_readTwo_21 ?_
    refine r_iconst (pc := 24) C dX12_readTwo_24 (v := 1) (by decide) ?_
    refine r_iadd (pc := 25) C dX12_readTwo_25 ?_
    refine mp_at (pc := 26) C dX12_readTwo_26 (fun S1 => ?_)
    refine r_iload_n (pc := 29) C dX12_readTwo_29 2 rfl ?_
    refine r_iconst (pc := 30) C dX12_readTwo_30 (v := 2) (by decide) ?_
    refine r_aload_n (pc := 31) C dX12_readTwo_31 0 rfl ?_
    refine mg_all (pc := 32) C dX12_readTwo_32 ?_
    refine r_iload_n (pc := 35) C dX12_readTwo_35 1 rfl ?_
    refine ml_all (pc := 36) C dX12_readTwo_36 ?_
    refine r_imul (pc := 37) C dX12_readTwo_37 ?_
    refine r_iadd (pc := 38) C dX12_readTwo_38 ?_
    refine r_istoreV (pc := 39) C dX12_readTwo_39 (lv' := fun x2 => [(0, .ref (q 0)), (1, .int a1), (2, .int a2), (3, .int a3), (4, .int a4), (5, .int a5), (6, .int a6), (7, .int a7), (8, .int x2)]) (by decide) [1, 2, 3, 4, 5, 6, 7, 8, 0] (fun _ => rfl) (fun x2 => ?_)
    refine r_aload_n (pc := 41) C dX12_readTwo_41 0 rfl ?_
    refine r_iload (pc := 42) C dX12_readTwo_42 8 rfl ?_
    refine r_iload (pc := 44) C dX12_readTwo_44 4 rfl ?_
    refine r_iload (pc := 46) C dX12_readTwo_46 5 rfl ?_
    refine r_cVwz (As := [.int x2, .int a4, .int a5]) (st := []) (wf := mw g q) (pc := 48) C (fun _ _ h => c_X12_readNumber h) kY_X12_readNumber kw_6_160 kw_0_44 kw_6_158 rfl ⟨Nat.le_of_ble_eq_true rfl, Nat.le_of_ble_eq_true rfl⟩ rfl rfl ⟨Nat.zero_le _, Nat.zero_le _⟩ 0 rfl rfl rfl (Nat.le_of_ble_eq_true rfl) dX12_readTwo_48 (fun x3 S4 => ?_)
    refine r_ifb_eq 78 (pc := 51) C dX12_readTwo_51 (by decide) ?_ ?_
    · refine r_iconst (pc := 78) C dX12_readTwo_78 (v := 0) (by decide) ?_
      exact r_retWZ hR rfl (pc := 79) dX12_readTwo_79
    · refine r_aload_n (pc := 54) C dX12_readTwo_54 0 rfl ?_
      refine r_bipush (pc := 55) C dX12_readTwo_55 (v := 44) (by decide) ?_
      refine r_cVwz (As := [.int 44]) (st := []) (wf := mw g q) (pc := 57) C (fun _ _ h => c_X12_takes h) kY_X12_takes kw_6_171 kw_0_46 kw_6_169 rfl ⟨Nat.le_of_ble_eq_true rfl, Nat.le_of_ble_eq_true rfl⟩ rfl rfl ⟨Nat.zero_le _, Nat.zero_le _⟩ 0 rfl rfl rfl (Nat.le_of_ble_eq_true rfl) dX12_readTwo_57 (fun x5 S6 => ?_)
      refine r_ifb_eq 78 (pc := 60) C dX12_readTwo_60 (by decide) ?_ ?_
      · refine r_iconst (pc := 78) C dX12_readTwo_78 (v := 0) (by decide) ?_
        exact r_retWZ hR rfl (pc := 79) dX12_readTwo_79
      · refine r_aload_n (pc := 63) C dX12_readTwo_63 0 rfl ?_
        refine r_iload (pc := 64) C dX12_readTwo_64 8 rfl ?_
        refine r_iconst (pc := 66) C dX12_readTwo_66 (v := 1) (by decide) ?_
        refine r_iadd (pc := 67) C dX12_readTwo_67 ?_
        refine r_iload (pc := 68) C dX12_readTwo_68 6 rfl ?_
        refine r_iload (pc := 70) C dX12_readTwo_70 7 rfl ?_
        refine r_cVwz (As := [.int (x2 + 1), .int a6, .int a7]) (st := []) (wf := mw g q) (pc := 72) C (fun _ _ h => c_X12_readNumber h) kY_X12_readNumber kw_6_160 kw_0_44 kw_6_158 rfl ⟨Nat.le_of_ble_eq_true rfl, Nat.le_of_ble_eq_true rfl⟩ rfl rfl ⟨Nat.zero_le _, Nat.zero_le _⟩ 0 rfl rfl rfl (Nat.le_of_ble_eq_true rfl) dX12_readTwo_72 (fun x7 S8 => ?_)
        refine r_ifb_ne 80 (pc := 75) C dX12_readTwo_75 (by decide) ?_ ?_
        · refine r_aload_n (pc := 80) C dX12_readTwo_80 0 rfl ?_
          refine mg_all (pc := 81) C dX12_readTwo_81 ?_
          refine r_iload_n (pc := 84) C dX12_readTwo_84 1 rfl ?_
          refine r_dup2 (pc := 85) C dX12_readTwo_85 rfl rfl ?_
          refine ml_all (pc := 86) C dX12_readTwo_86 ?_
          refine r_iconst (pc := 87) C dX12_readTwo_87 (v := 1) (by decide) ?_
          refine r_iadd (pc := 88) C dX12_readTwo_88 ?_
          refine ms_all (pc := 89) C dX12_readTwo_89 (fun S9 => ?_)
          refine r_aload_n (pc := 90) C dX12_readTwo_90 0 rfl ?_
          refine r_bipush (pc := 91) C dX12_readTwo_91 (v := 59) (by decide) ?_
          refine r_cVwz (As := [.int 59]) (st := []) (wf := mw g q) (pc := 93) C (fun _ _ h => c_X12_takes h) kY_X12_takes kw_6_171 kw_0_46 kw_6_169 rfl ⟨Nat.le_of_ble_eq_true rfl, Nat.le_of_ble_eq_true rfl⟩ rfl rfl ⟨Nat.zero_le _, Nat.zero_le _⟩ 0 rfl rfl rfl (Nat.le_of_ble_eq_true rfl) dX12_readTwo_93 (fun x10 S11 => ?_)
          exact r_retWZ hR rfl (pc := 96) dX12_readTwo_96
        · refine r_iconst (pc := 78) C dX12_readTwo_78 (v := 0) (by decide) ?_
          exact r_retWZ hR rfl (pc := 79) dX12_readTwo_79
  · refine r_aload_n (pc := 10) C dX12_readTwo_10 0 rfl ?_
    refine r_aload_n (pc := 11) C dX12_readTwo_11 0 rfl ?_
    refine mg_at (pc := 12) C dX12_readTwo_12 ?_
    refine r_cVwz (As := [.int (S.1 6)]) (st := []) (wf := mw g q) (pc := 15) C (fun _ _ h => c_X12_fails h) kY_X12_fails kw_6_156 kw_0_43 kw_6_154 rfl ⟨Nat.le_of_ble_eq_true rfl, Nat.le_of_ble_eq_true rfl⟩ rfl rfl ⟨Nat.zero_le _, Nat.zero_le _⟩ 0 rfl rfl rfl (Nat.le_of_ble_eq_true rfl) dX12_readTwo_15 (fun x12 S13 => ?_)
    exact r_retWZ hR rfl (pc := 18) dX12_readTwo_18
set_option maxRecDepth 100000 in
theorem w_X12_readTwo {S : MS} {a1 : Int32} {a2 : Int32} {a3 : Int32} {a4 : Int32} {a5 : Int32} {a6 : Int32} {a7 : Int32} {r : Bool} {S' : MS} (h : f_X12_readTwo S a1 a2 a3 a4 a5 a6 a7 = some (r, S')) : fI [6, 7, 8] [0] S S' := by
  have hS : fI [6, 7, 8] [0] S S := fI_rf
  refine (?_ : jf (fI [6, 7, 8] [0] S) Prod.snd (f_X12_readTwo S a1 a2 a3 a4 a5 a6 a7)) _ h
  unfold f_X12_readTwo
  refine f_chk ?_
  refine f_ite ?_ ?_
  · refine f_bwS (fun _ _ h => fI_tr hS (w_X12_fails h) (by decide) (by decide)) (fun x12 S13 hS13 => ?_)
    exact f_some hS13
  · refine f_ltS (fI_si hS (by decide)) (fun S1 hS1 => ?_)
    refine f_chk ?_
    refine f_lt (fun x2 => ?_)
    refine f_bwS (fun _ _ h => fI_tr hS1 (w_X12_readNumber h) (by decide) (by decide)) (fun x3 S4 hS4 => ?_)
    refine f_ite ?_ ?_
    · refine f_bwS (fun _ _ h => fI_tr hS4 (w_X12_takes h) (by decide) (by decide)) (fun x5 S6 hS6 => ?_)
      refine f_ite ?_ ?_
      · refine f_bwS (fun _ _ h => fI_tr hS6 (w_X12_readNumber h) (by decide) (by decide)) (fun x7 S8 hS8 => ?_)
        refine f_ite ?_ ?_
        · refine f_chk ?_
          refine f_chk (f_ltS (fI_sa hS8 (by decide)) (fun S9 hS9 => ?_))
          refine f_bwS (fun _ _ h => fI_tr hS9 (w_X12_takes h) (by decide) (by decide)) (fun x10 S11 hS11 => ?_)
          exact f_some hS11
        · exact f_some hS8
      · exact f_some hS6
    · exact f_some hS4
abbrev rm_X12_lowOf : Room := { frames := 0, cells := 0, slots := 0, locals := 0 }
theorem kY_X12_lowOf : kY yX12_lowOf cX12_lowOf 2 (some .int) 1 := ⟨kw_1_13, kw_6_183, by decide, by decide, by decide +kernel⟩
def f_X12_lowOf (S : MS) (a1 : Int32) : Option (Int32) :=
  (if a1 = 5 then
  some 1
 else
  (if a1 = 6 then
  some (-99)
 else
  some 0))
set_option maxRecDepth 100000 in
set_option maxHeartbeats 4000000 in
theorem c_X12_lowOf {g : KG} {q : Nat → Nat} {S : MS} {a1 : Int32} {r : Int32} (h : f_X12_lowOf S a1 = some r) : ∀ l, kM l yX12_lowOf cX12_lowOf 2 (some .int) rm_X12_lowOf g [.ref (q 0), .int a1] (mw g q S) (mw g q S) (some (.int r)) 0 0 := by
  refine k_open_i (own := "MarkChainsModel") (by decide) rfl (Nat.le_of_ble_eq_true rfl) (fun X C hR => ?_)
  refine (?_ : jJ X g (r : Int32) (mw g q S) 0 0 0 [(0, .ref (q 0)), (1, .int a1)] [] (f_X12_lowOf S a1)) h
  unfold f_X12_lowOf
  refine r_iload_n (pc := 0) C dX12_lowOf_0 1 rfl ?_
  refine r_iconst (pc := 1) C dX12_lowOf_1 (v := 5) (by decide) ?_
  refine r_icmp_ne 9 (pc := 2) C dX12_lowOf_2 (by decide) ?_ ?_
  · refine r_iload_n (pc := 9) C dX12_lowOf_9 1 rfl ?_
    refine r_bipush (pc := 10) C dX12_lowOf_10 (v := 6) (by decide) ?_
    refine r_icmp_ne 20 (pc := 12) C dX12_lowOf_12 (by decide) ?_ ?_
    · refine r_iconst (pc := 20) C dX12_lowOf_20 (v := 0) (by decide) ?_
      exact r_retPI hR (pc := 21) dX12_lowOf_21
    · refine r_bipush (pc := 15) C dX12_lowOf_15 (v := (-99)) (by decide) ?_
      refine r_goto 21 (pc := 17) C dX12_lowOf_17 (by decide) ?_
      exact r_retPI hR (pc := 21) dX12_lowOf_21
  · refine r_iconst (pc := 5) C dX12_lowOf_5 (v := 1) (by decide) ?_
    refine r_goto 21 (pc := 6) C dX12_lowOf_6 (by decide) ?_
    exact r_retPI hR (pc := 21) dX12_lowOf_21
abbrev rm_X12_highOf : Room := { frames := 0, cells := 0, slots := 0, locals := 0 }
theorem kY_X12_highOf : kY yX12_highOf cX12_highOf 2 (some .int) 1 := ⟨kw_1_13, kw_6_187, by decide, by decide, by decide +kernel⟩
def f_X12_highOf (S : MS) (a1 : Int32) : Option (Int32) :=
  (if a1 = 0 then
  chk 0 1177 (
  some ((S.2 0 (0 : Int32).toNatClampNeg) - 1))
 else
  (if a1 = 1 then
  chk 2 1177 (
  some ((S.2 0 (2 : Int32).toNatClampNeg) - 1))
 else
  (if a1 = 2 then
  chk 1 1177 (
  some ((S.2 0 (1 : Int32).toNatClampNeg) - 1))
 else
  (if a1 = 3 then
  chk 4 1177 (
  some (S.2 0 (4 : Int32).toNatClampNeg))
 else
  (if a1 = 4 then
  some 1439
 else
  (if a1 = 5 then
  some 1000000
 else
  (if a1 = 8 then
  some 63
 else
  some 99)))))))
set_option maxRecDepth 100000 in
set_option maxHeartbeats 4000000 in
theorem c_X12_highOf {g : KG} {q : Nat → Nat} {S : MS} {a1 : Int32} {r : Int32} (h : f_X12_highOf S a1 = some r) : ∀ l, kM l yX12_highOf cX12_highOf 2 (some .int) rm_X12_highOf g [.ref (q 0), .int a1] (mw g q S) (mw g q S) (some (.int r)) 0 0 := by
  refine k_open_i (own := "MarkChainsModel") (by decide) rfl (Nat.le_of_ble_eq_true rfl) (fun X C hR => ?_)
  refine (?_ : jJ X g (r : Int32) (mw g q S) 0 0 0 [(0, .ref (q 0)), (1, .int a1)] [] (f_X12_highOf S a1)) h
  unfold f_X12_highOf
  refine r_iload_n (pc := 0) C dX12_highOf_0 1 rfl ?_
  refine r_case (fun h1_0 => ?_) (fun h1_0 => ?_)
  · refine r_tabIn (off := 51) 52 (pc := 1) C dX12_highOf_1 h1_0 (by decide) (by decide) (by decide) (by decide) ?_
    refine r_aload_n (pc := 52) C dX12_highOf_52 0 rfl ?_
    refine mg_all (pc := 53) C dX12_highOf_53 ?_
    refine r_iconst (pc := 56) C dX12_highOf_56 (v := 0) (by decide) ?_
    refine ml_all (pc := 57) C dX12_highOf_57 ?_
    refine r_iconst (pc := 58) C dX12_highOf_58 (v := 1) (by decide) ?_
    refine r_isub (pc := 59) C dX12_highOf_59 ?_
    exact r_retPI hR (pc := 60) dX12_highOf_60
  · refine r_case (fun h1_1 => ?_) (fun h1_1 => ?_)
    · refine r_tabIn (off := 60) 61 (pc := 1) C dX12_highOf_1 h1_1 (by decide) (by decide) (by decide) (by decide) ?_
      refine r_aload_n (pc := 61) C dX12_highOf_61 0 rfl ?_
      refine mg_all (pc := 62) C dX12_highOf_62 ?_
      refine r_iconst (pc := 65) C dX12_highOf_65 (v := 2) (by decide) ?_
      refine ml_all (pc := 66) C dX12_highOf_66 ?_
      refine r_iconst (pc := 67) C dX12_highOf_67 (v := 1) (by decide) ?_
      refine r_isub (pc := 68) C dX12_highOf_68 ?_
      exact r_retPI hR (pc := 69) dX12_highOf_69
    · refine r_case (fun h1_2 => ?_) (fun h1_2 => ?_)
      · refine r_tabIn (off := 69) 70 (pc := 1) C dX12_highOf_1 h1_2 (by decide) (by decide) (by decide) (by decide) ?_
        refine r_aload_n (pc := 70) C dX12_highOf_70 0 rfl ?_
        refine mg_all (pc := 71) C dX12_highOf_71 ?_
        refine r_iconst (pc := 74) C dX12_highOf_74 (v := 1) (by decide) ?_
        refine ml_all (pc := 75) C dX12_highOf_75 ?_
        refine r_iconst (pc := 76) C dX12_highOf_76 (v := 1) (by decide) ?_
        refine r_isub (pc := 77) C dX12_highOf_77 ?_
        exact r_retPI hR (pc := 78) dX12_highOf_78
      · refine r_case (fun h1_3 => ?_) (fun h1_3 => ?_)
        · refine r_tabIn (off := 78) 79 (pc := 1) C dX12_highOf_1 h1_3 (by decide) (by decide) (by decide) (by decide) ?_
          refine r_aload_n (pc := 79) C dX12_highOf_79 0 rfl ?_
          refine mg_all (pc := 80) C dX12_highOf_80 ?_
          refine r_iconst (pc := 83) C dX12_highOf_83 (v := 4) (by decide) ?_
          refine ml_all (pc := 84) C dX12_highOf_84 ?_
          exact r_retPI hR (pc := 85) dX12_highOf_85
        · refine r_case (fun h1_4 => ?_) (fun h1_4 => ?_)
          · refine r_tabIn (off := 85) 86 (pc := 1) C dX12_highOf_1 h1_4 (by decide) (by decide) (by decide) (by decide) ?_
            refine r_sipush (pc := 86) C dX12_highOf_86 (v := 1439) (by decide) ?_
            exact r_retPI hR (pc := 89) dX12_highOf_89
          · refine r_case (fun h1_5 => ?_) (fun h1_5 => ?_)
            · refine r_tabIn (off := 89) 90 (pc := 1) C dX12_highOf_1 h1_5 (by decide) (by decide) (by decide) (by decide) ?_
              refine r_ldc (pc := 90) C dX12_highOf_90 kw_6_188 ?_
              exact r_retPI hR (pc := 92) dX12_highOf_92
            · refine r_case (fun h1_6 => ?_) (fun h1_6 => ?_)
              · refine r_tabIn (off := 92) 93 (pc := 1) C dX12_highOf_1 h1_6 (by decide) (by decide) (by decide) (by decide) ?_
                refine r_bipush (pc := 93) C dX12_highOf_93 (v := 63) (by decide) ?_
                exact r_retPI hR (pc := 95) dX12_highOf_95
              · refine r_tabDef 96 (pc := 1) C dX12_highOf_1 (by decide) (fun j hj => ?_) (by decide) ?_
                · match j, hj with
                  | 0, _ => exact Or.inr (lv_neT h1_0 (by decide))
                  | 1, _ => exact Or.inr (lv_neT h1_1 (by decide))
                  | 2, _ => exact Or.inr (lv_neT h1_2 (by decide))
                  | 3, _ => exact Or.inr (lv_neT h1_3 (by decide))
                  | 4, _ => exact Or.inr (lv_neT h1_4 (by decide))
                  | 5, _ => exact Or.inr (lv_neT h1_5 (by decide))
                  | 6, _ => exact Or.inl rfl
                  | 7, _ => exact Or.inl rfl
                  | 8, _ => exact Or.inr (lv_neT h1_6 (by decide))
                  | j + 9, hj => exact absurd hj (by simp)
                · refine r_bipush (pc := 96) C dX12_highOf_96 (v := 99) (by decide) ?_
                  exact r_retPI hR (pc := 98) dX12_highOf_98
abbrev rm_X12_markAt : Room := { frames := 0, cells := 0, slots := 0, locals := 0 }
theorem kY_X12_markAt : kY yX12_markAt cX12_markAt 1 (some .int) 1 := ⟨kw_1_13, kw_6_179, by decide, by decide, by decide +kernel⟩
def f_X12_markAt (a0 : Int32) : Option (Int32) :=
  some (65 + (11 * a0))
set_option maxRecDepth 100000 in
set_option maxHeartbeats 4000000 in
theorem c_X12_markAt {g : KG} {ws : va_W} {a0 : Int32} {r : Int32} (h : f_X12_markAt a0 = some r) : ∀ l, kM l yX12_markAt cX12_markAt 1 (some .int) rm_X12_markAt g [.int a0] (ws) (ws) (some (.int r)) 0 0 := by
  refine k_open_i (own := "MarkChainsModel") (by decide) rfl (Nat.le_of_ble_eq_true rfl) (fun X C hR => ?_)
  refine (?_ : jJ X g (r : Int32) (ws) 0 0 0 [(0, .int a0)] [] (f_X12_markAt a0)) h
  unfold f_X12_markAt
  refine r_bipush (pc := 0) C dX12_markAt_0 (v := 65) (by decide) ?_
  refine r_bipush (pc := 2) C dX12_markAt_2 (v := 11) (by decide) ?_
  refine r_iload_n (pc := 4) C dX12_markAt_4 0 rfl ?_
  refine r_imul (pc := 5) C dX12_markAt_5 ?_
  refine r_iadd (pc := 6) C dX12_markAt_6 ?_
  exact r_retPI hR (pc := 7) dX12_markAt_7
abbrev rm_X12_readMark : Room := { frames := 3, cells := 0, slots := 0, locals := 68 }
theorem kY_X12_readMark : kY yX12_readMark cX12_readMark 3 (some .boolean) 0 := ⟨kw_1_13, kw_6_176, by decide, by decide, by decide +kernel⟩
def L_X12_readMark_42 (c1 : Int32) (k7 : MS → Option (Bool × MS)) : Nat → MS → Int32 → Option (Bool × MS) := lo2 fun rec5 S4 x3 =>
  (if 8 < x3 then
  k7 S4
 else
  jn1 (fun (S9 : MS) =>
  bp (f_X12_lowOf S9 x3) (fun x10 =>
  bp (f_X12_highOf S9 x3) (fun x11 =>
  bw (f_X12_readNumber S9 (c1 + x3) x10 x11) (fun x12 S13 =>
  (if x12 = true then
  lt (x3 + 1) fun x14 =>
  rec5 S13 x14
 else
  some (false, S13)))))) (fun k15 =>
  (if x3 ≤ 0 then
  k15 S4
 else
  bw (f_X12_takes S4 44) (fun x17 S18 =>
  (if x17 = true then
  k15 S18
 else
  some (false, S18))))))
set_option maxRecDepth 100000 in
set_option maxHeartbeats 4000000 in
theorem l_X12_readMark_42 {X : KX} {g : KG} {q : Nat → Nat} {res : Bool × MS} (C : kC X g cX12_readMark "MarkChainsModel" rm_X12_readMark 3) (hR : ∀ (pc : Nat) (lv : List (Nat × Value)), decode cX12_readMark pc = .ok (.ireturn, 1) → jW X g (mw g q res.2) 0 0 pc lv [.int (b2 res.1)]) (c1 : Int32) (k7 : MS → Option (Bool × MS)) (hk8 : ∀ (S19 : MS), jJ X g res (mw g q S19) 0 0 89 [(0, .ref (q 0)), (1, .int c1)] [] (k7 S19)) : ∀ (n : Nat) (S4 : MS) (x3 : Int32), jJ X g res (mw g q S4) 0 0 42 [(0, .ref (q 0)), (1, .int c1), (2, .int x3)] [] (L_X12_readMark_42 c1 k7 n S4 x3) := by
  refine r_lo2 (fun S4 x3 => mw g q S4) (fun S4 x3 => [(0, .ref (q 0)), (1, .int c1), (2, .int x3)]) (fun rec5 ih6 S4 x3 => ?_)
  refine r_iload_n (pc := 42) C dX12_readMark_42 2 rfl ?_
  refine r_bipush (pc := 43) C dX12_readMark_43 (v := 8) (by decide) ?_
  refine r_icmp_gt 89 (pc := 45) C dX12_readMark_45 (by decide) ?_ ?_
  · refine r_sub (lv' := [(0, .ref (q 0)), (1, .int c1)]) [0, 1] rfl ?_
    exact hk8 S4
  · refine r_iload_n (pc := 48) C dX12_readMark_48 2 rfl ?_
    refine r_jn1 61 (fun (S9 : MS) => mw g q S9) (fun (S9 : MS) => [(0, .ref (q 0)), (1, .int c1), (2, .int x3)]) (fun (S9 : MS) => []) (fun S9 => ?_) (fun k15 hk16 => ?_)
    · refine r_aload_n (pc := 61) C dX12_readMark_61 0 rfl ?_
      refine r_iload_n (pc := 62) C dX12_readMark_62 1 rfl ?_
      refine r_iload_n (pc := 63) C dX12_readMark_63 2 rfl ?_
      refine r_iadd (pc := 64) C dX12_readMark_64 ?_
      refine r_aload_n (pc := 65) C dX12_readMark_65 0 rfl ?_
      refine r_iload_n (pc := 66) C dX12_readMark_66 2 rfl ?_
      refine r_cVpi (As := [.int x3]) (st := [.int (c1 + x3), .ref (q 0)]) (pc := 67) C (fun _ h => c_X12_lowOf h) kY_X12_lowOf kw_6_182 kw_0_48 kw_6_180 rfl ⟨Nat.le_of_ble_eq_true rfl, Nat.le_of_ble_eq_true rfl⟩ rfl rfl ⟨Nat.zero_le _, Nat.zero_le _⟩ 0 rfl rfl rfl (Nat.le_of_ble_eq_true rfl) dX12_readMark_67 (fun x10 => ?_)
      refine r_aload_n (pc := 70) C dX12_readMark_70 0 rfl ?_
      refine r_iload_n (pc := 71) C dX12_readMark_71 2 rfl ?_
      refine r_cVpi (As := [.int x3]) (st := [.int x10, .int (c1 + x3), .ref (q 0)]) (pc := 72) C (fun _ h => c_X12_highOf h) kY_X12_highOf kw_6_186 kw_0_49 kw_6_184 rfl ⟨Nat.le_of_ble_eq_true rfl, Nat.le_of_ble_eq_true rfl⟩ rfl rfl ⟨Nat.zero_le _, Nat.zero_le _⟩ 0 rfl rfl rfl (Nat.le_of_ble_eq_true rfl) dX12_readMark_72 (fun x11 => ?_)
      refine r_cVwz (As := [.int (c1 + x3), .int x10, .int x11]) (st := []) (wf := mw g q) (pc := 75) C (fun _ _ h => c_X12_readNumber h) kY_X12_readNumber kw_6_160 kw_0_44 kw_6_158 rfl ⟨Nat.le_of_ble_eq_true rfl, Nat.le_of_ble_eq_true rfl⟩ rfl rfl ⟨Nat.zero_le _, Nat.zero_le _⟩ 0 rfl rfl rfl (Nat.le_of_ble_eq_true rfl) dX12_readMark_75 (fun x12 S13 => ?_)
      refine r_ifb_ne 83 (pc := 78) C dX12_readMark_78 (by decide) ?_ ?_
      · refine r_iinc (pc := 83) C dX12_readMark_83 (v := 1) (lv' := fun x14 => [(0, .ref (q 0)), (1, .int c1), (2, .int x14)]) 2 rfl (by decide) (by decide) [1, 2, 0] (fun _ => rfl) (fun x14 => ?_)
        refine r_goto 42 (pc := 86) C dX12_readMark_86 (by decide) ?_
        exact ih6 S13 x14
      · refine r_iconst (pc := 81) C dX12_readMark_81 (v := 0) (by decide) ?_
        exact r_retWZ hR rfl (pc := 82) dX12_readMark_82
    · refine r_if_le 61 (pc := 49) C dX12_readMark_49 (by decide) ?_ ?_
      · exact hk16 S4
      · refine r_aload_n (pc := 52) C dX12_readMark_52 0 rfl ?_
        refine r_bipush (pc := 53) C dX12_readMark_53 (v := 44) (by decide) ?_
        refine r_cVwz (As := [.int 44]) (st := []) (wf := mw g q) (pc := 55) C (fun _ _ h => c_X12_takes h) kY_X12_takes kw_6_171 kw_0_46 kw_6_169 rfl ⟨Nat.le_of_ble_eq_true rfl, Nat.le_of_ble_eq_true rfl⟩ rfl rfl ⟨Nat.zero_le _, Nat.zero_le _⟩ 0 rfl rfl rfl (Nat.le_of_ble_eq_true rfl) dX12_readMark_55 (fun x17 S18 => ?_)
        refine r_ifb_eq 81 (pc := 58) C dX12_readMark_58 (by decide) ?_ ?_
        · refine r_iconst (pc := 81) C dX12_readMark_81 (v := 0) (by decide) ?_
          exact r_retWZ hR rfl (pc := 82) dX12_readMark_82
        · exact hk16 S18
set_option maxRecDepth 100000 in
theorem v_X12_readMark_42 {S0 : MS} {c1 : Int32} {k7 : MS → Option (Bool × MS)} (hk8 : ∀ (S19 : MS), (fI [6, 7, 8] [0] S0) S19 → jf (fI [6, 7, 8] [0] S0) Prod.snd (k7 S19)) : ∀ (n : Nat) (S4 : MS) (x3 : Int32), (fI [6, 7, 8] [0] S0) S4 → jf (fI [6, 7, 8] [0] S0) Prod.snd (L_X12_readMark_42 c1 k7 n S4 x3) := by
  refine f_lo2 (I := (fI [6, 7, 8] [0] S0)) (fun S4 x3 => S4) (fun rec5 ih6 S4 x3 hS4 => ?_)
  refine f_ite ?_ ?_
  · exact hk8 S4 hS4
  · refine f_jn1 (fun S9 hS9 => ?_) (fun k15 hk16 => ?_)
    · refine f_bp (fun x10 => ?_)
      refine f_bp (fun x11 => ?_)
      refine f_bwS (fun _ _ h => fI_tr hS9 (w_X12_readNumber h) (by decide) (by decide)) (fun x12 S13 hS13 => ?_)
      refine f_ite ?_ ?_
      · refine f_lt (fun x14 => ?_)
        exact ih6 S13 x14 hS13
      · exact f_some hS13
    · refine f_ite ?_ ?_
      · exact hk16 S4 hS4
      · refine f_bwS (fun _ _ h => fI_tr hS4 (w_X12_takes h) (by decide) (by decide)) (fun x17 S18 hS18 => ?_)
        refine f_ite ?_ ?_
        · exact hk16 S18 hS18
        · exact f_some hS18
def f_X12_readMark (S : MS) : Option (Bool × MS) :=
  chk 3 1177 (
  (if (S.2 0 (3 : Int32).toNatClampNeg) = 60 then
  bw (f_X12_fails S (S.1 6)) (fun x26 S27 =>
  some (x26, S27))
 else
  lt (si S 6 ((S.1 6) + 1)) fun S1 =>
  chk 3 1177 (
  bp (f_X12_markAt (S1.2 0 (3 : Int32).toNatClampNeg)) (fun x2 =>
  L_X12_readMark_42 x2 (fun S20 =>
  chk (x2 + 9) 1177 (lt (sa S20 0 (upd (S20.2 0) (x2 + 9).toNatClampNeg (-1))) fun S21 =>
  chk (x2 + 10) 1177 (lt (sa S21 0 (upd (S21.2 0) (x2 + 10).toNatClampNeg (-1))) fun S22 =>
  chk 3 1177 (
  chk 3 1177 (lt (sa S22 0 (upd (S22.2 0) (3 : Int32).toNatClampNeg ((S22.2 0 (3 : Int32).toNatClampNeg) + 1))) fun S23 =>
  bw (f_X12_takes S23 59) (fun x24 S25 =>
  some (x24, S25))))))) FU S1 0))))
set_option maxRecDepth 100000 in
set_option maxHeartbeats 4000000 in
theorem c_X12_readMark {g : KG} {q : Nat → Nat} {S : MS}  {r : Bool} {S' : MS} (h : f_X12_readMark S = some (r, S')) : ∀ l, kM l yX12_readMark cX12_readMark 3 (some .boolean) rm_X12_readMark g [.ref (q 0)] (mw g q S) (mw g q S') (some (.int (b2 r))) 0 0 := by
  refine k_open_z (own := "MarkChainsModel") (by decide) rfl (Nat.le_of_ble_eq_true rfl) (fun X C hR => ?_)
  refine (?_ : jJ X g ((r, S') : Bool × MS) (mw g q S) 0 0 0 [(0, .ref (q 0))] [] (f_X12_readMark S)) h
  unfold f_X12_readMark
  refine r_aload_n (pc := 0) C dX12_readMark_0 0 rfl ?_
  refine mg_all (pc := 1) C dX12_readMark_1 ?_
  refine r_iconst (pc := 4) C dX12_readMark_4 (v := 3) (by decide) ?_
  refine ml_all (pc := 5) C dX12_readMark_5 ?_
  refine r_bipush (pc := 6) C dX12_readMark_6 (v := 60) (by decide) ?_
  refine r_icmp_ne 20 (pc := 8) C dX12_readMark_8 (by decide) ?_ ?_
  · refine r_aload_n (pc := 20) C dX12_readMark_20 0 rfl ?_
    refine r_dup (pc := 21) C dX12_readMark_21 rfl ?_
    refine mg_at (pc := 22) C dX12_readMark_22 ?_
    refine r_iconst (pc := 25) C dX12_readMark_25 (v := 1) (by decide) ?_
    refine r_iadd (pc := 26) C dX12_readMark_26 ?_
    refine mp_at (pc := 27) C dX12_readMark_27 (fun S1 => ?_)
    refine r_aload_n (pc := 30) C dX12_readMark_30 0 rfl ?_
    refine mg_all (pc := 31) C dX12_readMark_31 ?_
    refine r_iconst (pc := 34) C dX12_readMark_34 (v := 3) (by decide) ?_
    refine ml_all (pc := 35) C dX12_readMark_35 ?_
    refine r_cSpi (As := [.int (S1.2 0 (3 : Int32).toNatClampNeg)]) (st := []) (pc := 36) C (fun _ h => c_X12_markAt h) kY_X12_markAt kw_6_178 kw_6_177 rfl ⟨Nat.le_of_ble_eq_true rfl, Nat.le_of_ble_eq_true rfl⟩ rfl rfl ⟨Nat.zero_le _, Nat.zero_le _⟩ rfl (Nat.le_of_ble_eq_true rfl) dX12_readMark_36 (fun x2 => ?_)
    refine r_istore_n (pc := 39) C dX12_readMark_39 (lv' := [(0, .ref (q 0)), (1, .int x2)]) (by decide) [1, 0] rfl ?_
    refine r_iconst (pc := 40) C dX12_readMark_40 (v := 0) (by decide) ?_
    refine r_istore_n (pc := 41) C dX12_readMark_41 (lv' := [(0, .ref (q 0)), (1, .int x2), (2, .int 0)]) (by decide) [1, 2, 0] rfl ?_
    refine l_X12_readMark_42 C hR x2 _ (fun S20 => ?_) FU S1 0
    refine r_aload_n (pc := 89) C dX12_readMark_89 0 rfl ?_
    refine mg_all (pc := 90) C dX12_readMark_90 ?_
    refine r_iload_n (pc := 93) C dX12_readMark_93 1 rfl ?_
    refine r_bipush (pc := 94) C dX12_readMark_94 (v := 9) (by decide) ?_
    refine r_iadd (pc := 96) C dX12_readMark_96 ?_
    refine r_iconst (pc := 97) C dX12_readMark_97 (v := (-1)) (by decide) ?_
    refine ms_all (pc := 98) C dX12_readMark_98 (fun S21 => ?_)
    refine r_aload_n (pc := 99) C dX12_readMark_99 0 rfl ?_
    refine mg_all (pc := 100) C dX12_readMark_100 ?_
    refine r_iload_n (pc := 103) C dX12_readMark_103 1 rfl ?_
    refine r_bipush (pc := 104) C dX12_readMark_104 (v := 10) (by decide) ?_
    refine r_iadd (pc := 106) C dX12_readMark_106 ?_
    refine r_iconst (pc := 107) C dX12_readMark_107 (v := (-1)) (by decide) ?_
    refine ms_all (pc := 108) C dX12_readMark_108 (fun S22 => ?_)
    refine r_aload_n (pc := 109) C dX12_readMark_109 0 rfl ?_
    refine mg_all (pc := 110) C dX12_readMark_110 ?_
    refine r_iconst (pc := 113) C dX12_readMark_113 (v := 3) (by decide) ?_
    refine r_dup2 (pc := 114) C dX12_readMark_114 rfl rfl ?_
    refine ml_all (pc := 115) C dX12_readMark_115 ?_
    refine r_iconst (pc := 116) C dX12_readMark_116 (v := 1) (by decide) ?_
    refine r_iadd (pc := 117) C dX12_readMark_117 ?_
    refine ms_all (pc := 118) C dX12_readMark_118 (fun S23 => ?_)
    refine r_aload_n (pc := 119) C dX12_readMark_119 0 rfl ?_
    refine r_bipush (pc := 120) C dX12_readMark_120 (v := 59) (by decide) ?_
    refine r_cVwz (As := [.int 59]) (st := []) (wf := mw g q) (pc := 122) C (fun _ _ h => c_X12_takes h) kY_X12_takes kw_6_171 kw_0_46 kw_6_169 rfl ⟨Nat.le_of_ble_eq_true rfl, Nat.le_of_ble_eq_true rfl⟩ rfl rfl ⟨Nat.zero_le _, Nat.zero_le _⟩ 0 rfl rfl rfl (Nat.le_of_ble_eq_true rfl) dX12_readMark_122 (fun x24 S25 => ?_)
    exact r_retWZ hR rfl (pc := 125) dX12_readMark_125
  · refine r_aload_n (pc := 11) C dX12_readMark_11 0 rfl ?_
    refine r_aload_n (pc := 12) C dX12_readMark_12 0 rfl ?_
    refine mg_at (pc := 13) C dX12_readMark_13 ?_
    refine r_cVwz (As := [.int (S.1 6)]) (st := []) (wf := mw g q) (pc := 16) C (fun _ _ h => c_X12_fails h) kY_X12_fails kw_6_156 kw_0_43 kw_6_154 rfl ⟨Nat.le_of_ble_eq_true rfl, Nat.le_of_ble_eq_true rfl⟩ rfl rfl ⟨Nat.zero_le _, Nat.zero_le _⟩ 0 rfl rfl rfl (Nat.le_of_ble_eq_true rfl) dX12_readMark_16 (fun x26 S27 => ?_)
    exact r_retWZ hR rfl (pc := 19) dX12_readMark_19
set_option maxRecDepth 100000 in
theorem w_X12_readMark {S : MS}  {r : Bool} {S' : MS} (h : f_X12_readMark S = some (r, S')) : fI [6, 7, 8] [0] S S' := by
  have hS : fI [6, 7, 8] [0] S S := fI_rf
  refine (?_ : jf (fI [6, 7, 8] [0] S) Prod.snd (f_X12_readMark S)) _ h
  unfold f_X12_readMark
  refine f_chk ?_
  refine f_ite ?_ ?_
  · refine f_bwS (fun _ _ h => fI_tr hS (w_X12_fails h) (by decide) (by decide)) (fun x26 S27 hS27 => ?_)
    exact f_some hS27
  · refine f_ltS (fI_si hS (by decide)) (fun S1 hS1 => ?_)
    refine f_chk ?_
    refine f_bp (fun x2 => ?_)
    refine v_X12_readMark_42 (fun S20 hS20 => ?_) FU S1 0 hS1
    refine f_chk (f_ltS (fI_sa hS20 (by decide)) (fun S21 hS21 => ?_))
    refine f_chk (f_ltS (fI_sa hS21 (by decide)) (fun S22 hS22 => ?_))
    refine f_chk ?_
    refine f_chk (f_ltS (fI_sa hS22 (by decide)) (fun S23 hS23 => ?_))
    refine f_bwS (fun _ _ h => fI_tr hS23 (w_X12_takes h) (by decide) (by decide)) (fun x24 S25 hS25 => ?_)
    exact f_some hS25
