abbrev rm_X7_stepAt_l1 : Room := { frames := 2, cells := 0, slots := 0, locals := 43 }
theorem kY_X7_stepAt : kY yX7_stepAt cX7_stepAt 2 (some .int) 1 := ⟨kw_1_10, kw_5_80, by decide, by decide, by decide +kernel⟩
def f_X7_stepAt_l1 (S : CS) (a1 : Int32) : Option (Int32) :=
  (if a1 ≤ 0 then
  some 0
 else
  (if (S.1 21) ≤ a1 then
  some 0
 else
  chk a1 60 (
  chk (a1 - 1) 60 (
  bp (f_X1_gainOver S (S.2.1 37 a1.toNatClampNeg) (S.2.1 37 (a1 - 1).toNatClampNeg)) (fun x1 =>
  some x1)))))
set_option maxRecDepth 100000 in
set_option maxHeartbeats 4000000 in
theorem c_X7_stepAt_l1 {g : KG} {q : Nat → Nat} {E : va_W} {S : CS} {a1 : Int32} {r : Int32} (h : f_X7_stepAt_l1 S a1 = some r) : ∀ l, kM l yX7_stepAt cX7_stepAt 2 (some .int) rm_X7_stepAt_l1 g [.ref (q 36), .int a1] (cx g q E S) (cx g q E S) (some (.int r)) 0 0 := by
  refine k_open_i (own := "MarkChains$Line") (by decide) rfl (Nat.le_of_ble_eq_true rfl) (fun X C hR => ?_)
  refine (?_ : jJ X g (r : Int32) (cx g q E S) 0 0 0 [(0, .ref (q 36)), (1, .int a1)] [] (f_X7_stepAt_l1 S a1)) h
  unfold f_X7_stepAt_l1
  refine r_iload_n (pc := 0) C dX7_stepAt_0 1 rfl ?_
  refine r_if_le 36 (pc := 1) C dX7_stepAt_1 (by decide) ?_ ?_
  · refine r_iconst (pc := 36) C dX7_stepAt_36 (v := 0) (by decide) ?_
    exact r_retPI hR (pc := 37) dX7_stepAt_37
  · refine r_iload_n (pc := 4) C dX7_stepAt_4 1 rfl ?_
    refine r_aload_n (pc := 5) C dX7_stepAt_5 0 rfl ?_
    refine xg_l1_size (pc := 6) C kw_2_29 dX7_stepAt_6 ?_
    refine r_icmp_ge 36 (pc := 9) C dX7_stepAt_9 (by decide) ?_ ?_
    · refine r_iconst (pc := 36) C dX7_stepAt_36 (v := 0) (by decide) ?_
      exact r_retPI hR (pc := 37) dX7_stepAt_37
    · refine r_aload_n (pc := 12) C dX7_stepAt_12 0 rfl ?_
      refine xg_l1_book (pc := 13) C kw_2_25 dX7_stepAt_13 ?_
      refine r_aload_n (pc := 16) C dX7_stepAt_16 0 rfl ?_
      refine xg_l1_numbers (pc := 17) C kw_2_26 dX7_stepAt_17 ?_
      refine r_iload_n (pc := 20) C dX7_stepAt_20 1 rfl ?_
      refine xl_l1_numbers (pc := 21) C dX7_stepAt_21 ?_
      refine r_aload_n (pc := 22) C dX7_stepAt_22 0 rfl ?_
      refine xg_l1_numbers (pc := 23) C kw_2_26 dX7_stepAt_23 ?_
      refine r_iload_n (pc := 26) C dX7_stepAt_26 1 rfl ?_
      refine r_iconst (pc := 27) C dX7_stepAt_27 (v := 1) (by decide) ?_
      refine r_isub (pc := 28) C dX7_stepAt_28 ?_
      refine xl_l1_numbers (pc := 29) C dX7_stepAt_29 ?_
      refine r_cVpi (As := [.int (S.2.1 37 a1.toNatClampNeg), .int (S.2.1 37 (a1 - 1).toNatClampNeg)]) (st := []) (pc := 30) C (fun _ h => c_X1_gainOver h) kY_X1_gainOver kw_4_130 kw_4_131 kw_5_72 rfl ⟨Nat.le_of_ble_eq_true rfl, Nat.le_of_ble_eq_true rfl⟩ rfl rfl ⟨Nat.zero_le _, Nat.zero_le _⟩ 3 rfl rfl rfl (Nat.le_of_ble_eq_true rfl) dX7_stepAt_30 (fun x1 => ?_)
      refine r_goto 37 (pc := 33) C dX7_stepAt_33 (by decide) ?_
      exact r_retPI hR (pc := 37) dX7_stepAt_37
abbrev rm_X7_widestStep_l1 : Room := { frames := 3, cells := 0, slots := 0, locals := 64 }
theorem kY_X7_widestStep : kY yX7_widestStep cX7_widestStep 3 (some .int) 0 := ⟨kw_1_10, kw_5_76, by decide, by decide, by decide +kernel⟩
def L_X7_widestStep_l1_4 (S : CS) (k5 : Int32 → Option (Int32)) : Nat → Int32 → Int32 → Option (Int32) := lo2 fun rec3 x1 x2 =>
  (if (S.1 21) ≤ x2 then
  k5 x1
 else
  bp (f_X7_stepAt_l1 S x2) (fun x7 =>
  jn1 (fun (x8 : Int32) =>
  (if x7 ≤ x8 then
  lt (x2 + 1) fun x9 =>
  rec3 x1 x9
 else
  lt (x2 + 1) fun x10 =>
  rec3 x2 x10)) (fun k11 =>
  (if x1 = (-1) then
  k11 0
 else
  bp (f_X7_stepAt_l1 S x1) (fun x13 =>
  k11 x13)))))
set_option maxRecDepth 100000 in
set_option maxHeartbeats 4000000 in
theorem l_X7_widestStep_l1_4 {X : KX} {g : KG} {q : Nat → Nat} {E : va_W} {res : Int32} {S : CS} (C : kC X g cX7_widestStep "MarkChains$Line" rm_X7_widestStep_l1 3) (hR : ∀ (pc : Nat) (lv : List (Nat × Value)), decode cX7_widestStep pc = .ok (.ireturn, 1) → jW X g (cx g q E S) 0 0 pc lv [.int res]) (k5 : Int32 → Option (Int32)) (hk6 : ∀ (x14 : Int32), jJ X g res (cx g q E S) 0 0 42 [(1, .int x14)] [] (k5 x14)) : ∀ (n : Nat) (x1 : Int32) (x2 : Int32), jJ X g res (cx g q E S) 0 0 4 [(0, .ref (q 36)), (1, .int x1), (2, .int x2)] [] (L_X7_widestStep_l1_4 S k5 n x1 x2) := by
  refine r_lo2 (fun x1 x2 => cx g q E S) (fun x1 x2 => [(0, .ref (q 36)), (1, .int x1), (2, .int x2)]) (fun rec3 ih4 x1 x2 => ?_)
  refine r_iload_n (pc := 4) C dX7_widestStep_4 2 rfl ?_
  refine r_aload_n (pc := 5) C dX7_widestStep_5 0 rfl ?_
  refine xg_l1_size (pc := 6) C kw_2_29 dX7_widestStep_6 ?_
  refine r_icmp_ge 42 (pc := 9) C dX7_widestStep_9 (by decide) ?_ ?_
  · refine r_sub (lv' := [(1, .int x1)]) [1] rfl ?_
    exact hk6 x1
  · refine r_aload_n (pc := 12) C dX7_widestStep_12 0 rfl ?_
    refine r_iload_n (pc := 13) C dX7_widestStep_13 2 rfl ?_
    refine r_cVpi (As := [.int x2]) (st := []) (pc := 14) C (fun _ h => c_X7_stepAt_l1 h) kY_X7_stepAt kw_5_78 kw_5_79 kw_5_77 rfl ⟨Nat.le_of_ble_eq_true rfl, Nat.le_of_ble_eq_true rfl⟩ rfl rfl ⟨Nat.zero_le _, Nat.zero_le _⟩ 35 rfl rfl rfl (Nat.le_of_ble_eq_true rfl) dX7_widestStep_14 (fun x7 => ?_)
    refine r_iload_n (pc := 17) C dX7_widestStep_17 1 rfl ?_
    refine r_iconst (pc := 18) C dX7_widestStep_18 (v := (-1)) (by decide) ?_
    refine r_jn1 31 (fun (x8 : Int32) => cx g q E S) (fun (x8 : Int32) => [(0, .ref (q 36)), (1, .int x1), (2, .int x2)]) (fun (x8 : Int32) => [.int x8, .int x7]) (fun x8 => ?_) (fun k11 hk12 => ?_)
    · refine r_icmp_le 36 (pc := 31) C dX7_widestStep_31 (by decide) ?_ ?_
      · refine r_iinc (pc := 36) C dX7_widestStep_36 (v := 1) (lv' := fun x9 => [(0, .ref (q 36)), (1, .int x1), (2, .int x9)]) 2 rfl (by decide) (by decide) [1, 2, 0] (fun _ => rfl) (fun x9 => ?_)
        refine r_goto 4 (pc := 39) C dX7_widestStep_39 (by decide) ?_
        exact ih4 x1 x9
      · refine r_iload_n (pc := 34) C dX7_widestStep_34 2 rfl ?_
        refine r_istore_n (pc := 35) C dX7_widestStep_35 (lv' := [(0, .ref (q 36)), (1, .int x2), (2, .int x2)]) (by decide) [1, 0, 2] rfl ?_
        refine r_iinc (pc := 36) C dX7_widestStep_36 (v := 1) (lv' := fun x10 => [(0, .ref (q 36)), (1, .int x2), (2, .int x10)]) 2 rfl (by decide) (by decide) [1, 2, 0] (fun _ => rfl) (fun x10 => ?_)
        refine r_goto 4 (pc := 39) C dX7_widestStep_39 (by decide) ?_
        exact ih4 x2 x10
    · refine r_icmp_ne 26 (pc := 19) C dX7_widestStep_19 (by decide) ?_ ?_
      · refine r_aload_n (pc := 26) C dX7_widestStep_26 0 rfl ?_
        refine r_iload_n (pc := 27) C dX7_widestStep_27 1 rfl ?_
        refine r_cVpi (As := [.int x1]) (st := [.int x7]) (pc := 28) C (fun _ h => c_X7_stepAt_l1 h) kY_X7_stepAt kw_5_78 kw_5_79 kw_5_77 rfl ⟨Nat.le_of_ble_eq_true rfl, Nat.le_of_ble_eq_true rfl⟩ rfl rfl ⟨Nat.zero_le _, Nat.zero_le _⟩ 35 rfl rfl rfl (Nat.le_of_ble_eq_true rfl) dX7_widestStep_28 (fun x13 => ?_)
        exact hk12 x13
      · refine r_iconst (pc := 22) C dX7_widestStep_22 (v := 0) (by decide) ?_
        refine r_goto 31 (pc := 23) C dX7_widestStep_23 (by decide) ?_
        exact hk12 0
def f_X7_widestStep_l1 (S : CS) : Option (Int32) :=
  L_X7_widestStep_l1_4 S (fun x15 =>
  some x15) FU (-1) 1
set_option maxRecDepth 100000 in
set_option maxHeartbeats 4000000 in
theorem c_X7_widestStep_l1 {g : KG} {q : Nat → Nat} {E : va_W} {S : CS}  {r : Int32} (h : f_X7_widestStep_l1 S = some r) : ∀ l, kM l yX7_widestStep cX7_widestStep 3 (some .int) rm_X7_widestStep_l1 g [.ref (q 36)] (cx g q E S) (cx g q E S) (some (.int r)) 0 0 := by
  refine k_open_i (own := "MarkChains$Line") (by decide) rfl (Nat.le_of_ble_eq_true rfl) (fun X C hR => ?_)
  refine (?_ : jJ X g (r : Int32) (cx g q E S) 0 0 0 [(0, .ref (q 36))] [] (f_X7_widestStep_l1 S)) h
  unfold f_X7_widestStep_l1
  refine r_iconst (pc := 0) C dX7_widestStep_0 (v := (-1)) (by decide) ?_
  refine r_istore_n (pc := 1) C dX7_widestStep_1 (lv' := [(0, .ref (q 36)), (1, .int (-1))]) (by decide) [1, 0] rfl ?_
  refine r_iconst (pc := 2) C dX7_widestStep_2 (v := 1) (by decide) ?_
  refine r_istore_n (pc := 3) C dX7_widestStep_3 (lv' := [(0, .ref (q 36)), (1, .int (-1)), (2, .int 1)]) (by decide) [1, 2, 0] rfl ?_
  refine l_X7_widestStep_l1_4 C hR _ (fun x15 => ?_) FU (-1) 1
  refine r_iload_n (pc := 42) C dX7_widestStep_42 0 rfl ?_
  exact r_retPI hR (pc := 43) dX7_widestStep_43
abbrev rm_X7_wholeGain_l1 : Room := { frames := 2, cells := 0, slots := 0, locals := 43 }
theorem kY_X7_wholeGain : kY yX7_wholeGain cX7_wholeGain 1 (some .int) 0 := ⟨kw_1_10, kw_5_71, by decide, by decide, by decide +kernel⟩
def f_X7_wholeGain_l1 (S : CS) : Option (Int32) :=
  (if (S.1 21) = 0 then
  some 0
 else
  chk ((S.1 21) - 1) 60 (
  chk 0 60 (
  bp (f_X1_gainOver S (S.2.1 37 ((S.1 21) - 1).toNatClampNeg) (S.2.1 37 (0 : Int32).toNatClampNeg)) (fun x1 =>
  some x1))))
set_option maxRecDepth 100000 in
set_option maxHeartbeats 4000000 in
theorem c_X7_wholeGain_l1 {g : KG} {q : Nat → Nat} {E : va_W} {S : CS}  {r : Int32} (h : f_X7_wholeGain_l1 S = some r) : ∀ l, kM l yX7_wholeGain cX7_wholeGain 1 (some .int) rm_X7_wholeGain_l1 g [.ref (q 36)] (cx g q E S) (cx g q E S) (some (.int r)) 0 0 := by
  refine k_open_i (own := "MarkChains$Line") (by decide) rfl (Nat.le_of_ble_eq_true rfl) (fun X C hR => ?_)
  refine (?_ : jJ X g (r : Int32) (cx g q E S) 0 0 0 [(0, .ref (q 36))] [] (f_X7_wholeGain_l1 S)) h
  unfold f_X7_wholeGain_l1
  refine r_aload_n (pc := 0) C dX7_wholeGain_0 0 rfl ?_
  refine xg_l1_size (pc := 1) C kw_2_29 dX7_wholeGain_1 ?_
  refine r_if_ne 11 (pc := 4) C dX7_wholeGain_4 (by decide) ?_ ?_
  · refine r_aload_n (pc := 11) C dX7_wholeGain_11 0 rfl ?_
    refine xg_l1_book (pc := 12) C kw_2_25 dX7_wholeGain_12 ?_
    refine r_aload_n (pc := 15) C dX7_wholeGain_15 0 rfl ?_
    refine xg_l1_numbers (pc := 16) C kw_2_26 dX7_wholeGain_16 ?_
    refine r_aload_n (pc := 19) C dX7_wholeGain_19 0 rfl ?_
    refine xg_l1_size (pc := 20) C kw_2_29 dX7_wholeGain_20 ?_
    refine r_iconst (pc := 23) C dX7_wholeGain_23 (v := 1) (by decide) ?_
    refine r_isub (pc := 24) C dX7_wholeGain_24 ?_
    refine xl_l1_numbers (pc := 25) C dX7_wholeGain_25 ?_
    refine r_aload_n (pc := 26) C dX7_wholeGain_26 0 rfl ?_
    refine xg_l1_numbers (pc := 27) C kw_2_26 dX7_wholeGain_27 ?_
    refine r_iconst (pc := 30) C dX7_wholeGain_30 (v := 0) (by decide) ?_
    refine xl_l1_numbers (pc := 31) C dX7_wholeGain_31 ?_
    refine r_cVpi (As := [.int (S.2.1 37 ((S.1 21) - 1).toNatClampNeg), .int (S.2.1 37 (0 : Int32).toNatClampNeg)]) (st := []) (pc := 32) C (fun _ h => c_X1_gainOver h) kY_X1_gainOver kw_4_130 kw_4_131 kw_5_72 rfl ⟨Nat.le_of_ble_eq_true rfl, Nat.le_of_ble_eq_true rfl⟩ rfl rfl ⟨Nat.zero_le _, Nat.zero_le _⟩ 3 rfl rfl rfl (Nat.le_of_ble_eq_true rfl) dX7_wholeGain_32 (fun x1 => ?_)
    exact r_retPI hR (pc := 35) dX7_wholeGain_35
  · refine r_iconst (pc := 7) C dX7_wholeGain_7 (v := 0) (by decide) ?_
    refine r_goto 35 (pc := 8) C dX7_wholeGain_8 (by decide) ?_
    exact r_retPI hR (pc := 35) dX7_wholeGain_35
abbrev rm_X11_progress : Room := { frames := 5, cells := 0, slots := 0, locals := 117 }
theorem kY_X11_progress : kY yX11_progress cX11_progress 6 (some .int) 4 := ⟨kw_1_1, kw_5_67, by decide, by decide, by decide +kernel⟩
def f_X11_progress (S : CS) (a1 : Int32) (a2 : Int32) (a3 : Int32) (a4 : Int32) : Option (Int32 × CS) :=
  (if a4 < 0 then
  some ((-2), S)
 else
  (if 2 < a4 then
  some ((-2), S)
 else
  bw (f_X11_fillChain S a1 a2 a3) (fun x1 S2 =>
  (if x1 = true then
  (if a4 = 0 then
  bp (f_X7_wholeGain_l1 S2) (fun x5 =>
  some (x5, S2))
 else
  bp (f_X7_widestStep_l1 S2) (fun x3 =>
  (if a4 = 1 then
  (if x3 = (-1) then
  some (0, S2)
 else
  bp (f_X7_stepAt_l1 S2 x3) (fun x4 =>
  some (x4, S2)))
 else
  (if x3 = (-1) then
  some ((-1), S2)
 else
  chk x3 60 (
  some (S2.2.1 37 x3.toNatClampNeg, S2))))))
 else
  some ((-2), S2)))))
set_option maxRecDepth 100000 in
set_option maxHeartbeats 4000000 in
theorem c_X11_progress {g : KG} {q : Nat → Nat} {E : va_W} {S : CS} {a1 : Int32} {a2 : Int32} {a3 : Int32} {a4 : Int32} {r : Int32} {S' : CS} (h : f_X11_progress S a1 a2 a3 a4 = some (r, S')) : ∀ l, kM l yX11_progress cX11_progress 6 (some .int) rm_X11_progress g [.ref (q 0), .int a1, .int a2, .int a3, .int a4] (cx g q E S) (cx g q E S') (some (.int r)) 0 0 := by
  refine k_open_i (own := "MarkChains") (by decide) rfl (Nat.le_of_ble_eq_true rfl) (fun X C hR => ?_)
  refine (?_ : jJ X g ((r, S') : Int32 × CS) (cx g q E S) 0 0 0 [(0, .ref (q 0)), (1, .int a1), (2, .int a2), (3, .int a3), (4, .int a4)] [] (f_X11_progress S a1 a2 a3 a4)) h
  unfold f_X11_progress
  refine r_iload (pc := 0) C dX11_progress_0 4 rfl ?_
  refine r_if_lt 21 (pc := 2) C dX11_progress_2 (by decide) ?_ ?_
  · refine r_bipush (pc := 21) C dX11_progress_21 (v := (-2)) (by decide) ?_
    exact r_retWI (wf := cx g q E) hR (pc := 23) dX11_progress_23
  · refine r_iload (pc := 5) C dX11_progress_5 4 rfl ?_
    refine r_iconst (pc := 7) C dX11_progress_7 (v := 2) (by decide) ?_
    refine r_icmp_gt 21 (pc := 8) C dX11_progress_8 (by decide) ?_ ?_
    · refine r_bipush (pc := 21) C dX11_progress_21 (v := (-2)) (by decide) ?_
      exact r_retWI (wf := cx g q E) hR (pc := 23) dX11_progress_23
    · refine r_aload_n (pc := 11) C dX11_progress_11 0 rfl ?_
      refine r_iload_n (pc := 12) C dX11_progress_12 1 rfl ?_
      refine r_iload_n (pc := 13) C dX11_progress_13 2 rfl ?_
      refine r_iload_n (pc := 14) C dX11_progress_14 3 rfl ?_
      refine r_cVwz (As := [.int a1, .int a2, .int a3]) (st := []) (wf := cx g q E) (pc := 15) C (fun _ _ h => c_X11_fillChain h) kY_X11_fillChain kw_4_107 kw_0_24 kw_4_105 rfl ⟨Nat.le_of_ble_eq_true rfl, Nat.le_of_ble_eq_true rfl⟩ rfl rfl ⟨Nat.zero_le _, Nat.zero_le _⟩ 0 rfl rfl rfl (Nat.le_of_ble_eq_true rfl) dX11_progress_15 (fun x1 S2 => ?_)
      refine r_ifb_ne 24 (pc := 18) C dX11_progress_18 (by decide) ?_ ?_
      · refine r_iload (pc := 24) C dX11_progress_24 4 rfl ?_
        refine r_if_ne 37 (pc := 26) C dX11_progress_26 (by decide) ?_ ?_
        · refine r_aload_n (pc := 37) C dX11_progress_37 0 rfl ?_
          refine xg_x_line (pc := 38) C kw_2_80 dX11_progress_38 ?_
          refine r_cVpi (As := []) (st := []) (pc := 41) C (fun _ h => c_X7_widestStep_l1 h) kY_X7_widestStep kw_5_74 kw_5_75 kw_5_73 rfl ⟨Nat.le_of_ble_eq_true rfl, Nat.le_of_ble_eq_true rfl⟩ rfl rfl ⟨Nat.zero_le _, Nat.zero_le _⟩ 35 rfl rfl rfl (Nat.le_of_ble_eq_true rfl) dX11_progress_41 (fun x3 => ?_)
          refine r_istore (pc := 44) C dX11_progress_44 (lv' := [(0, .ref (q 0)), (1, .int a1), (2, .int a2), (3, .int a3), (4, .int a4), (5, .int x3)]) (by decide) [1, 2, 3, 4, 5, 0] rfl ?_
          refine r_iload (pc := 46) C dX11_progress_46 4 rfl ?_
          refine r_iconst (pc := 48) C dX11_progress_48 (v := 1) (by decide) ?_
          refine r_icmp_ne 72 (pc := 49) C dX11_progress_49 (by decide) ?_ ?_
          · refine r_iload (pc := 72) C dX11_progress_72 5 rfl ?_
            refine r_iconst (pc := 74) C dX11_progress_74 (v := (-1)) (by decide) ?_
            refine r_icmp_ne 82 (pc := 75) C dX11_progress_75 (by decide) ?_ ?_
            · refine r_aload_n (pc := 82) C dX11_progress_82 0 rfl ?_
              refine xg_x_line (pc := 83) C kw_2_80 dX11_progress_83 ?_
              refine xgN_l1_numbers (pc := 86) C knf_36 dX11_progress_86 ?_
              refine r_iload (pc := 89) C dX11_progress_89 5 rfl ?_
              refine xl_l1_numbers (pc := 91) C dX11_progress_91 ?_
              exact r_retWI (wf := cx g q E) hR (pc := 92) dX11_progress_92
            · refine r_iconst (pc := 78) C dX11_progress_78 (v := (-1)) (by decide) ?_
              refine r_goto 92 (pc := 79) C dX11_progress_79 (by decide) ?_
              exact r_retWI (wf := cx g q E) hR (pc := 92) dX11_progress_92
          · refine r_iload (pc := 52) C dX11_progress_52 5 rfl ?_
            refine r_iconst (pc := 54) C dX11_progress_54 (v := (-1)) (by decide) ?_
            refine r_icmp_ne 62 (pc := 55) C dX11_progress_55 (by decide) ?_ ?_
            · refine r_aload_n (pc := 62) C dX11_progress_62 0 rfl ?_
              refine xg_x_line (pc := 63) C kw_2_80 dX11_progress_63 ?_
              refine r_iload (pc := 66) C dX11_progress_66 5 rfl ?_
              refine r_cVpi (As := [.int x3]) (st := []) (pc := 68) C (fun _ h => c_X7_stepAt_l1 h) kY_X7_stepAt kw_5_78 kw_5_79 kw_5_81 rfl ⟨Nat.le_of_ble_eq_true rfl, Nat.le_of_ble_eq_true rfl⟩ rfl rfl ⟨Nat.zero_le _, Nat.zero_le _⟩ 35 rfl rfl rfl (Nat.le_of_ble_eq_true rfl) dX11_progress_68 (fun x4 => ?_)
              exact r_retWI (wf := cx g q E) hR (pc := 71) dX11_progress_71
            · refine r_iconst (pc := 58) C dX11_progress_58 (v := 0) (by decide) ?_
              refine r_goto 71 (pc := 59) C dX11_progress_59 (by decide) ?_
              exact r_retWI (wf := cx g q E) hR (pc := 71) dX11_progress_71
        · refine r_aload_n (pc := 29) C dX11_progress_29 0 rfl ?_
          refine xg_x_line (pc := 30) C kw_2_80 dX11_progress_30 ?_
          refine r_cVpi (As := []) (st := []) (pc := 33) C (fun _ h => c_X7_wholeGain_l1 h) kY_X7_wholeGain kw_5_69 kw_5_70 kw_5_68 rfl ⟨Nat.le_of_ble_eq_true rfl, Nat.le_of_ble_eq_true rfl⟩ rfl rfl ⟨Nat.zero_le _, Nat.zero_le _⟩ 35 rfl rfl rfl (Nat.le_of_ble_eq_true rfl) dX11_progress_33 (fun x5 => ?_)
          exact r_retWI (wf := cx g q E) hR (pc := 36) dX11_progress_36
      · refine r_bipush (pc := 21) C dX11_progress_21 (v := (-2)) (by decide) ?_
        exact r_retWI (wf := cx g q E) hR (pc := 23) dX11_progress_23
set_option maxRecDepth 100000 in
theorem w_X11_progress {S : CS} {a1 : Int32} {a2 : Int32} {a3 : Int32} {a4 : Int32} {r : Int32} {S' : CS} (h : f_X11_progress S a1 a2 a3 a4 = some (r, S')) : gI [21] [37] S S' := by
  have hS : gI [21] [37] S S := gI_rf
  refine (?_ : jf (gI [21] [37] S) Prod.snd (f_X11_progress S a1 a2 a3 a4)) _ h
  unfold f_X11_progress
  refine f_ite ?_ ?_
  · exact f_some hS
  · refine f_ite ?_ ?_
    · exact f_some hS
    · refine f_bwS (fun _ _ h => gI_tr hS (w_X11_fillChain h) (by decide) (by decide)) (fun x1 S2 hS2 => ?_)
      refine f_ite ?_ ?_
      · refine f_ite ?_ ?_
        · refine f_bp (fun x5 => ?_)
          exact f_some hS2
        · refine f_bp (fun x3 => ?_)
          refine f_ite ?_ ?_
          · refine f_ite ?_ ?_
            · exact f_some hS2
            · refine f_bp (fun x4 => ?_)
              exact f_some hS2
          · refine f_ite ?_ ?_
            · exact f_some hS2
            · refine f_chk ?_
              exact f_some hS2
      · exact f_some hS2
abbrev rm_X1_firstDayInChain : Room := { frames := 4, cells := 0, slots := 0, locals := 93 }
theorem kY_X1_firstDayInChain : kY yX1_firstDayInChain cX1_firstDayInChain 6 (some .int) 2 := ⟨kw_1_3, kw_5_89, by decide, by decide, by decide +kernel⟩
def L_X1_firstDayInChain_21 (S : CS) (c1 : Int32) (c2 : Int32) (k7 : Option (Int32)) : Nat → Int32 → Int32 → Option (Int32) := lo2 fun rec5 x3 x4 =>
  (if (S.1 6) < x4 then
  k7
 else
  bp (f_X1_isStanding S c1 x3) (fun x9 =>
  (if x9 = true then
  bp (f_X1_firstBetterAhead S c1 c2 x3) (fun x10 =>
  (if x10 = (-1) then
  some x3
 else
  chk x10 60 (
  (if (S.2.1 23 x10.toNatClampNeg) = (-1) then
  some (-1)
 else
  chk x10 60 (
  lt (S.2.1 23 x10.toNatClampNeg) fun x11 =>
  lt (x4 + 1) fun x12 =>
  rec5 x11 x12)))))
 else
  k7)))
set_option maxRecDepth 100000 in
set_option maxHeartbeats 4000000 in
theorem l_X1_firstDayInChain_21 {X : KX} {g : KG} {q : Nat → Nat} {E : va_W} {res : Int32} {S : CS} (C : kC X g cX1_firstDayInChain "MarkChains$Book" rm_X1_firstDayInChain 6) (hR : ∀ (pc : Nat) (lv : List (Nat × Value)), decode cX1_firstDayInChain pc = .ok (.ireturn, 1) → jW X g (cx g q E S) 0 0 pc lv [.int res]) (c1 : Int32) (c2 : Int32) (k7 : Option (Int32)) (hk8 : jJ X g res (cx g q E S) 0 0 83 [] [] k7) : ∀ (n : Nat) (x3 : Int32) (x4 : Int32), jJ X g res (cx g q E S) 0 0 21 [(0, .ref (q 3)), (1, .int c1), (2, .int c2), (3, .int x3), (4, .int x4)] [] (L_X1_firstDayInChain_21 S c1 c2 k7 n x3 x4) := by
  refine r_lo2 (fun x3 x4 => cx g q E S) (fun x3 x4 => [(0, .ref (q 3)), (1, .int c1), (2, .int c2), (3, .int x3), (4, .int x4)]) (fun rec5 ih6 x3 x4 => ?_)
  refine r_iload (pc := 21) C dX1_firstDayInChain_21 4 rfl ?_
  refine r_aload_n (pc := 23) C dX1_firstDayInChain_23 0 rfl ?_
  refine xg_bk_size (pc := 24) C kw_1_125 dX1_firstDayInChain_24 ?_
  refine r_icmp_gt 83 (pc := 27) C dX1_firstDayInChain_27 (by decide) ?_ ?_
  · refine r_sub (lv' := []) [] rfl ?_
    exact hk8
  · refine r_aload_n (pc := 30) C dX1_firstDayInChain_30 0 rfl ?_
    refine r_iload_n (pc := 31) C dX1_firstDayInChain_31 1 rfl ?_
    refine r_iload_n (pc := 32) C dX1_firstDayInChain_32 3 rfl ?_
    refine r_cVpz (As := [.int c1, .int x3]) (st := []) (pc := 33) C (fun _ h => c_X1_isStanding h) kY_X1_isStanding kw_3_233 kw_3_234 kw_3_232 rfl ⟨Nat.le_of_ble_eq_true rfl, Nat.le_of_ble_eq_true rfl⟩ rfl rfl ⟨Nat.zero_le _, Nat.zero_le _⟩ 3 rfl rfl rfl (Nat.le_of_ble_eq_true rfl) dX1_firstDayInChain_33 (fun x9 => ?_)
    refine r_ifb_eq 83 (pc := 36) C dX1_firstDayInChain_36 (by decide) ?_ ?_
    · refine r_sub (lv' := []) [] rfl ?_
      exact hk8
    · refine r_aload_n (pc := 39) C dX1_firstDayInChain_39 0 rfl ?_
      refine r_iload_n (pc := 40) C dX1_firstDayInChain_40 1 rfl ?_
      refine r_iload_n (pc := 41) C dX1_firstDayInChain_41 2 rfl ?_
      refine r_iload_n (pc := 42) C dX1_firstDayInChain_42 3 rfl ?_
      refine r_cVpi (As := [.int c1, .int c2, .int x3]) (st := []) (pc := 43) C (fun _ h => c_X1_firstBetterAhead h) kY_X1_firstBetterAhead kw_5_10 kw_5_11 kw_5_90 rfl ⟨Nat.le_of_ble_eq_true rfl, Nat.le_of_ble_eq_true rfl⟩ rfl rfl ⟨Nat.zero_le _, Nat.zero_le _⟩ 3 rfl rfl rfl (Nat.le_of_ble_eq_true rfl) dX1_firstDayInChain_43 (fun x10 => ?_)
      refine r_istore (pc := 46) C dX1_firstDayInChain_46 (lv' := [(0, .ref (q 3)), (1, .int c1), (2, .int c2), (3, .int x3), (4, .int x4), (5, .int x10)]) (by decide) [1, 2, 3, 4, 5, 0] rfl ?_
      refine r_iload (pc := 48) C dX1_firstDayInChain_48 5 rfl ?_
      refine r_iconst (pc := 50) C dX1_firstDayInChain_50 (v := (-1)) (by decide) ?_
      refine r_icmp_ne 56 (pc := 51) C dX1_firstDayInChain_51 (by decide) ?_ ?_
      · refine r_aload_n (pc := 56) C dX1_firstDayInChain_56 0 rfl ?_
        refine xg_bk_struck (pc := 57) C kw_1_121 dX1_firstDayInChain_57 ?_
        refine r_iload (pc := 60) C dX1_firstDayInChain_60 5 rfl ?_
        refine xl_bk_struck (pc := 62) C dX1_firstDayInChain_62 ?_
        refine r_iconst (pc := 63) C dX1_firstDayInChain_63 (v := (-1)) (by decide) ?_
        refine r_icmp_ne 69 (pc := 64) C dX1_firstDayInChain_64 (by decide) ?_ ?_
        · refine r_aload_n (pc := 69) C dX1_firstDayInChain_69 0 rfl ?_
          refine xg_bk_struck (pc := 70) C kw_1_121 dX1_firstDayInChain_70 ?_
          refine r_iload (pc := 73) C dX1_firstDayInChain_73 5 rfl ?_
          refine xl_bk_struck (pc := 75) C dX1_firstDayInChain_75 ?_
          refine r_istoreV_n (pc := 76) C dX1_firstDayInChain_76 (lv' := fun x11 => [(0, .ref (q 3)), (1, .int c1), (2, .int c2), (3, .int x11), (4, .int x4), (5, .int x10)]) (by decide) [1, 2, 3, 0, 4, 5] (fun _ => rfl) (fun x11 => ?_)
          refine r_iinc (pc := 77) C dX1_firstDayInChain_77 (v := 1) (lv' := fun x12 => [(0, .ref (q 3)), (1, .int c1), (2, .int c2), (3, .int x11), (4, .int x12), (5, .int x10)]) 4 rfl (by decide) (by decide) [1, 2, 3, 4, 0, 5] (fun _ => rfl) (fun x12 => ?_)
          refine r_goto 21 (pc := 80) C dX1_firstDayInChain_80 (by decide) ?_
          refine r_sub (lv' := [(0, .ref (q 3)), (1, .int c1), (2, .int c2), (3, .int x11), (4, .int x12)]) [0, 1, 2, 3, 4] rfl ?_
          exact ih6 x11 x12
        · refine r_iconst (pc := 67) C dX1_firstDayInChain_67 (v := (-1)) (by decide) ?_
          exact r_retPI hR (pc := 68) dX1_firstDayInChain_68
      · refine r_iload_n (pc := 54) C dX1_firstDayInChain_54 3 rfl ?_
        exact r_retPI hR (pc := 55) dX1_firstDayInChain_55
def f_X1_firstDayInChain (S : CS) (a1 : Int32) (a2 : Int32) : Option (Int32) :=
  bp (f_X1_isOfScope S a1 a2) (fun x1 =>
  (if x1 = true then
  chk a1 60 (
  lt (S.2.1 22 a1.toNatClampNeg) fun x2 =>
  L_X1_firstDayInChain_21 S a1 a2 (some (-1)) FU x2 0)
 else
  some (-1)))
set_option maxRecDepth 100000 in
set_option maxHeartbeats 4000000 in
theorem c_X1_firstDayInChain {g : KG} {q : Nat → Nat} {E : va_W} {S : CS} {a1 : Int32} {a2 : Int32} {r : Int32} (h : f_X1_firstDayInChain S a1 a2 = some r) : ∀ l, kM l yX1_firstDayInChain cX1_firstDayInChain 6 (some .int) rm_X1_firstDayInChain g [.ref (q 3), .int a1, .int a2] (cx g q E S) (cx g q E S) (some (.int r)) 0 0 := by
  refine k_open_i (own := "MarkChains$Book") (by decide) rfl (Nat.le_of_ble_eq_true rfl) (fun X C hR => ?_)
  refine (?_ : jJ X g (r : Int32) (cx g q E S) 0 0 0 [(0, .ref (q 3)), (1, .int a1), (2, .int a2)] [] (f_X1_firstDayInChain S a1 a2)) h
  unfold f_X1_firstDayInChain
  refine r_aload_n (pc := 0) C dX1_firstDayInChain_0 0 rfl ?_
  refine r_iload_n (pc := 1) C dX1_firstDayInChain_1 1 rfl ?_
  refine r_iload_n (pc := 2) C dX1_firstDayInChain_2 2 rfl ?_
  refine r_cVpz (As := [.int a1, .int a2]) (st := []) (pc := 3) C (fun _ h => c_X1_isOfScope h) kY_X1_isOfScope kw_4_96 kw_4_97 kw_4_124 rfl ⟨Nat.le_of_ble_eq_true rfl, Nat.le_of_ble_eq_true rfl⟩ rfl rfl ⟨Nat.zero_le _, Nat.zero_le _⟩ 3 rfl rfl rfl (Nat.le_of_ble_eq_true rfl) dX1_firstDayInChain_3 (fun x1 => ?_)
  refine r_ifb_ne 11 (pc := 6) C dX1_firstDayInChain_6 (by decide) ?_ ?_
  · refine r_aload_n (pc := 11) C dX1_firstDayInChain_11 0 rfl ?_
    refine xg_bk_ratified (pc := 12) C kw_1_119 dX1_firstDayInChain_12 ?_
    refine r_iload_n (pc := 15) C dX1_firstDayInChain_15 1 rfl ?_
    refine xl_bk_ratified (pc := 16) C dX1_firstDayInChain_16 ?_
    refine r_istoreV_n (pc := 17) C dX1_firstDayInChain_17 (lv' := fun x2 => [(0, .ref (q 3)), (1, .int a1), (2, .int a2), (3, .int x2)]) (by decide) [1, 2, 3, 0] (fun _ => rfl) (fun x2 => ?_)
    refine r_iconst (pc := 18) C dX1_firstDayInChain_18 (v := 0) (by decide) ?_
    refine r_istore (pc := 19) C dX1_firstDayInChain_19 (lv' := [(0, .ref (q 3)), (1, .int a1), (2, .int a2), (3, .int x2), (4, .int 0)]) (by decide) [1, 2, 3, 4, 0] rfl ?_
    refine l_X1_firstDayInChain_21 C hR a1 a2 _ (?_) FU x2 0
    refine r_iconst (pc := 83) C dX1_firstDayInChain_83 (v := (-1)) (by decide) ?_
    exact r_retPI hR (pc := 84) dX1_firstDayInChain_84
  · refine r_iconst (pc := 9) C dX1_firstDayInChain_9 (v := (-1)) (by decide) ?_
    exact r_retPI hR (pc := 10) dX1_firstDayInChain_10
abbrev rm_X11_since : Room := { frames := 5, cells := 0, slots := 0, locals := 118 }
theorem kY_X11_since : kY yX11_since cX11_since 3 (some .int) 2 := ⟨kw_1_1, kw_5_85, by decide, by decide, by decide +kernel⟩
def f_X11_since (S : CS) (a1 : Int32) (a2 : Int32) : Option (Int32) :=
  bp (f_X11_isMarkAndScope S a1 a2) (fun x1 =>
  (if x1 = true then
  bp (f_X1_firstDayInChain S a1 a2) (fun x2 =>
  some x2)
 else
  some (-2)))
set_option maxRecDepth 100000 in
set_option maxHeartbeats 4000000 in
theorem c_X11_since {g : KG} {q : Nat → Nat} {E : va_W} {S : CS} {a1 : Int32} {a2 : Int32} {r : Int32} (h : f_X11_since S a1 a2 = some r) : ∀ l, kM l yX11_since cX11_since 3 (some .int) rm_X11_since g [.ref (q 0), .int a1, .int a2] (cx g q E S) (cx g q E S) (some (.int r)) 0 0 := by
  refine k_open_i (own := "MarkChains") (by decide) rfl (Nat.le_of_ble_eq_true rfl) (fun X C hR => ?_)
  refine (?_ : jJ X g (r : Int32) (cx g q E S) 0 0 0 [(0, .ref (q 0)), (1, .int a1), (2, .int a2)] [] (f_X11_since S a1 a2)) h
  unfold f_X11_since
  refine r_aload_n (pc := 0) C dX11_since_0 0 rfl ?_
  refine r_iload_n (pc := 1) C dX11_since_1 1 rfl ?_
  refine r_iload_n (pc := 2) C dX11_since_2 2 rfl ?_
  refine r_cVpz (As := [.int a1, .int a2]) (st := []) (pc := 3) C (fun _ h => c_X11_isMarkAndScope h) kY_X11_isMarkAndScope kw_4_90 kw_0_23 kw_4_88 rfl ⟨Nat.le_of_ble_eq_true rfl, Nat.le_of_ble_eq_true rfl⟩ rfl rfl ⟨Nat.zero_le _, Nat.zero_le _⟩ 0 rfl rfl rfl (Nat.le_of_ble_eq_true rfl) dX11_since_3 (fun x1 => ?_)
  refine r_ifb_ne 12 (pc := 6) C dX11_since_6 (by decide) ?_ ?_
  · refine r_aload_n (pc := 12) C dX11_since_12 0 rfl ?_
    refine xg_x_book (pc := 13) C kw_2_75 dX11_since_13 ?_
    refine r_iload_n (pc := 16) C dX11_since_16 1 rfl ?_
    refine r_iload_n (pc := 17) C dX11_since_17 2 rfl ?_
    refine r_cVpi (As := [.int a1, .int a2]) (st := []) (pc := 18) C (fun _ h => c_X1_firstDayInChain h) kY_X1_firstDayInChain kw_5_87 kw_5_88 kw_5_86 rfl ⟨Nat.le_of_ble_eq_true rfl, Nat.le_of_ble_eq_true rfl⟩ rfl rfl ⟨Nat.zero_le _, Nat.zero_le _⟩ 3 rfl rfl rfl (Nat.le_of_ble_eq_true rfl) dX11_since_18 (fun x2 => ?_)
    exact r_retPI hR (pc := 21) dX11_since_21
  · refine r_bipush (pc := 9) C dX11_since_9 (v := (-2)) (by decide) ?_
    exact r_retPI hR (pc := 11) dX11_since_11
abbrev rm_X7_lastValue_l2 : Room := { frames := 0, cells := 0, slots := 0, locals := 0 }
def f_X7_lastValue_l2 (S : CS) : Option (Int32) :=
  (if (S.1 22) = 0 then
  some (-1)
 else
  chk ((S.1 22) - 1) 60 (
  chk (S.2.1 40 ((S.1 22) - 1).toNatClampNeg) 60 (
  some (S.2.1 18 (S.2.1 40 ((S.1 22) - 1).toNatClampNeg).toNatClampNeg))))
set_option maxRecDepth 100000 in
set_option maxHeartbeats 4000000 in
theorem c_X7_lastValue_l2 {g : KG} {q : Nat → Nat} {E : va_W} {S : CS}  {r : Int32} (h : f_X7_lastValue_l2 S = some r) : ∀ l, kM l yX7_lastValue cX7_lastValue 1 (some .int) rm_X7_lastValue_l2 g [.ref (q 39)] (cx g q E S) (cx g q E S) (some (.int r)) 0 0 := by
  refine k_open_i (own := "MarkChains$Line") (by decide) rfl (Nat.le_of_ble_eq_true rfl) (fun X C hR => ?_)
  refine (?_ : jJ X g (r : Int32) (cx g q E S) 0 0 0 [(0, .ref (q 39))] [] (f_X7_lastValue_l2 S)) h
  unfold f_X7_lastValue_l2
  refine r_aload_n (pc := 0) C dX7_lastValue_0 0 rfl ?_
  refine xg_l2_size (pc := 1) C kw_2_29 dX7_lastValue_1 ?_
  refine r_if_ne 11 (pc := 4) C dX7_lastValue_4 (by decide) ?_ ?_
  · refine r_aload_n (pc := 11) C dX7_lastValue_11 0 rfl ?_
    refine xg_l2_book (pc := 12) C kw_2_25 dX7_lastValue_12 ?_
    refine xgN_bk_value (pc := 15) C knf_23 dX7_lastValue_15 ?_
    refine r_aload_n (pc := 18) C dX7_lastValue_18 0 rfl ?_
    refine xg_l2_numbers (pc := 19) C kw_2_26 dX7_lastValue_19 ?_
    refine r_aload_n (pc := 22) C dX7_lastValue_22 0 rfl ?_
    refine xg_l2_size (pc := 23) C kw_2_29 dX7_lastValue_23 ?_
    refine r_iconst (pc := 26) C dX7_lastValue_26 (v := 1) (by decide) ?_
    refine r_isub (pc := 27) C dX7_lastValue_27 ?_
    refine xl_l2_numbers (pc := 28) C dX7_lastValue_28 ?_
    refine xl_bk_value (pc := 29) C dX7_lastValue_29 ?_
    exact r_retPI hR (pc := 30) dX7_lastValue_30
  · refine r_iconst (pc := 7) C dX7_lastValue_7 (v := (-1)) (by decide) ?_
    refine r_goto 30 (pc := 8) C dX7_lastValue_8 (by decide) ?_
    exact r_retPI hR (pc := 30) dX7_lastValue_30
abbrev rm_X11_without : Room := { frames := 4, cells := 0, slots := 0, locals := 94 }
theorem kY_X11_without : kY yX11_without cX11_without 4 (some .int) 3 := ⟨kw_1_1, kw_5_94, by decide, by decide, by decide +kernel⟩
def f_X11_without (S : CS) (a1 : Int32) (a2 : Int32) (a3 : Int32) : Option (Int32 × CS) :=
  bp (f_X11_isMarkAndScope S a1 a2) (fun x1 =>
  (if x1 = true then
  (if a3 < 0 then
  some ((-2), S)
 else
  (if a3 ≤ 1 then
  chk a1 60 (
  bp (f_X7_fillWithChain_l2 S (S.2.1 13 a1.toNatClampNeg) a2 (S.1 0) a1) (fun S2 =>
  (if a3 = 1 then
  bp (f_X7_lastValue_l2 S2) (fun x5 =>
  some (x5, S2))
 else
  chk a1 60 (
  bp (f_X7_fillWithChain_l1 S2 (S2.2.1 13 a1.toNatClampNeg) a2 (S2.1 0) (-1)) (fun S3 =>
  bp (f_X7_countNotIn_l2l1 S3) (fun x4 =>
  some (x4, S3)))))))
 else
  some ((-2), S)))
 else
  some ((-2), S)))
set_option maxRecDepth 100000 in
set_option maxHeartbeats 4000000 in
theorem c_X11_without {g : KG} {q : Nat → Nat} {E : va_W} {S : CS} {a1 : Int32} {a2 : Int32} {a3 : Int32} {r : Int32} {S' : CS} (h : f_X11_without S a1 a2 a3 = some (r, S')) : ∀ l, kM l yX11_without cX11_without 4 (some .int) rm_X11_without g [.ref (q 0), .int a1, .int a2, .int a3] (cx g q E S) (cx g q E S') (some (.int r)) 0 0 := by
  refine k_open_i (own := "MarkChains") (by decide) rfl (Nat.le_of_ble_eq_true rfl) (fun X C hR => ?_)
  refine (?_ : jJ X g ((r, S') : Int32 × CS) (cx g q E S) 0 0 0 [(0, .ref (q 0)), (1, .int a1), (2, .int a2), (3, .int a3)] [] (f_X11_without S a1 a2 a3)) h
  unfold f_X11_without
  refine r_aload_n (pc := 0) C dX11_without_0 0 rfl ?_
  refine r_iload_n (pc := 1) C dX11_without_1 1 rfl ?_
  refine r_iload_n (pc := 2) C dX11_without_2 2 rfl ?_
  refine r_cVpz (As := [.int a1, .int a2]) (st := []) (pc := 3) C (fun _ h => c_X11_isMarkAndScope h) kY_X11_isMarkAndScope kw_4_90 kw_0_23 kw_4_88 rfl ⟨Nat.le_of_ble_eq_true rfl, Nat.le_of_ble_eq_true rfl⟩ rfl rfl ⟨Nat.zero_le _, Nat.zero_le _⟩ 0 rfl rfl rfl (Nat.le_of_ble_eq_true rfl) dX11_without_3 (fun x1 => ?_)
  refine r_ifb_eq 18 (pc := 6) C dX11_without_6 (by decide) ?_ ?_
  · refine r_bipush (pc := 18) C dX11_without_18 (v := (-2)) (by decide) ?_
    exact r_retWI (wf := cx g q E) hR (pc := 20) dX11_without_20
  · refine r_iload_n (pc := 9) C dX11_without_9 3 rfl ?_
    refine r_if_lt 18 (pc := 10) C dX11_without_10 (by decide) ?_ ?_
    · refine r_bipush (pc := 18) C dX11_without_18 (v := (-2)) (by decide) ?_
      exact r_retWI (wf := cx g q E) hR (pc := 20) dX11_without_20
    · refine r_iload_n (pc := 13) C dX11_without_13 3 rfl ?_
      refine r_iconst (pc := 14) C dX11_without_14 (v := 1) (by decide) ?_
      refine r_icmp_le 21 (pc := 15) C dX11_without_15 (by decide) ?_ ?_
      · refine r_aload_n (pc := 21) C dX11_without_21 0 rfl ?_
        refine xg_x_secondLine (pc := 22) C kw_2_81 dX11_without_22 ?_
        refine r_aload_n (pc := 25) C dX11_without_25 0 rfl ?_
        refine xg_x_book (pc := 26) C kw_2_75 dX11_without_26 ?_
        refine xgN_bk_event (pc := 29) C knf_17 dX11_without_29 ?_
        refine r_iload_n (pc := 32) C dX11_without_32 1 rfl ?_
        refine xl_bk_event (pc := 33) C dX11_without_33 ?_
        refine r_iload_n (pc := 34) C dX11_without_34 2 rfl ?_
        refine r_aload_n (pc := 35) C dX11_without_35 0 rfl ?_
        refine xg_x_today (pc := 36) C kw_2_86 dX11_without_36 ?_
        refine r_iload_n (pc := 39) C dX11_without_39 1 rfl ?_
        refine r_cVwv (As := [.int (S.2.1 13 a1.toNatClampNeg), .int a2, .int (S.1 0), .int a1]) (st := []) (wf := cx g q E) (pc := 40) C (fun _ h => c_X7_fillWithChain_l2 h) kY_X7_fillWithChain kw_4_117 kw_4_118 kw_4_116 rfl ⟨Nat.le_of_ble_eq_true rfl, Nat.le_of_ble_eq_true rfl⟩ rfl rfl ⟨Nat.zero_le _, Nat.zero_le _⟩ 38 rfl rfl rfl (Nat.le_of_ble_eq_true rfl) dX11_without_40 (fun S2 => ?_)
        refine r_iload_n (pc := 43) C dX11_without_43 3 rfl ?_
        refine r_iconst (pc := 44) C dX11_without_44 (v := 1) (by decide) ?_
        refine r_icmp_ne 56 (pc := 45) C dX11_without_45 (by decide) ?_ ?_
        · refine r_aload_n (pc := 56) C dX11_without_56 0 rfl ?_
          refine xg_x_line (pc := 57) C kw_2_80 dX11_without_57 ?_
          refine r_aload_n (pc := 60) C dX11_without_60 0 rfl ?_
          refine xg_x_book (pc := 61) C kw_2_75 dX11_without_61 ?_
          refine xgN_bk_event (pc := 64) C knf_17 dX11_without_64 ?_
          refine r_iload_n (pc := 67) C dX11_without_67 1 rfl ?_
          refine xl_bk_event (pc := 68) C dX11_without_68 ?_
          refine r_iload_n (pc := 69) C dX11_without_69 2 rfl ?_
          refine r_aload_n (pc := 70) C dX11_without_70 0 rfl ?_
          refine xg_x_today (pc := 71) C kw_2_86 dX11_without_71 ?_
          refine r_iconst (pc := 74) C dX11_without_74 (v := (-1)) (by decide) ?_
          refine r_cVwv (As := [.int (S2.2.1 13 a1.toNatClampNeg), .int a2, .int (S2.1 0), .int (-1)]) (st := []) (wf := cx g q E) (pc := 75) C (fun _ h => c_X7_fillWithChain_l1 h) kY_X7_fillWithChain kw_4_117 kw_4_118 kw_4_116 rfl ⟨Nat.le_of_ble_eq_true rfl, Nat.le_of_ble_eq_true rfl⟩ rfl rfl ⟨Nat.zero_le _, Nat.zero_le _⟩ 35 rfl rfl rfl (Nat.le_of_ble_eq_true rfl) dX11_without_75 (fun S3 => ?_)
          refine r_aload_n (pc := 78) C dX11_without_78 0 rfl ?_
          refine xg_x_secondLine (pc := 79) C kw_2_81 dX11_without_79 ?_
          refine r_aload_n (pc := 82) C dX11_without_82 0 rfl ?_
          refine xg_x_line (pc := 83) C kw_2_80 dX11_without_83 ?_
          refine r_cVpi (As := [.ref (q 36)]) (st := []) (pc := 86) C (fun _ h => c_X7_countNotIn_l2l1 h) kY_X7_countNotIn kw_4_208 kw_4_209 kw_4_207 rfl ⟨Nat.le_of_ble_eq_true rfl, Nat.le_of_ble_eq_true rfl⟩ rfl rfl ⟨Nat.zero_le _, Nat.zero_le _⟩ 38 rfl rfl rfl (Nat.le_of_ble_eq_true rfl) dX11_without_86 (fun x4 => ?_)
          exact r_retWI (wf := cx g q E) hR (pc := 89) dX11_without_89
        · refine r_aload_n (pc := 48) C dX11_without_48 0 rfl ?_
          refine xg_x_secondLine (pc := 49) C kw_2_81 dX11_without_49 ?_
          refine r_cVpi (As := []) (st := []) (pc := 52) C (fun _ h => c_X7_lastValue_l2 h) kY_X7_lastValue kw_4_150 kw_4_151 kw_4_149 rfl ⟨Nat.le_of_ble_eq_true rfl, Nat.le_of_ble_eq_true rfl⟩ rfl rfl ⟨Nat.zero_le _, Nat.zero_le _⟩ 38 rfl rfl rfl (Nat.le_of_ble_eq_true rfl) dX11_without_52 (fun x5 => ?_)
          exact r_retWI (wf := cx g q E) hR (pc := 55) dX11_without_55
      · refine r_bipush (pc := 18) C dX11_without_18 (v := (-2)) (by decide) ?_
        exact r_retWI (wf := cx g q E) hR (pc := 20) dX11_without_20
set_option maxRecDepth 100000 in
theorem w_X11_without {S : CS} {a1 : Int32} {a2 : Int32} {a3 : Int32} {r : Int32} {S' : CS} (h : f_X11_without S a1 a2 a3 = some (r, S')) : gI [21, 22] [37, 40] S S' := by
  have hS : gI [21, 22] [37, 40] S S := gI_rf
  refine (?_ : jf (gI [21, 22] [37, 40] S) Prod.snd (f_X11_without S a1 a2 a3)) _ h
  unfold f_X11_without
  refine f_bp (fun x1 => ?_)
  refine f_ite ?_ ?_
  · refine f_ite ?_ ?_
    · exact f_some hS
    · refine f_ite ?_ ?_
      · refine f_chk ?_
        refine f_bpS (fun _ h => gI_tr hS (w_X7_fillWithChain_l2 h) (by decide) (by decide)) (fun S2 hS2 => ?_)
        refine f_ite ?_ ?_
        · refine f_bp (fun x5 => ?_)
          exact f_some hS2
        · refine f_chk ?_
          refine f_bpS (fun _ h => gI_tr hS2 (w_X7_fillWithChain_l1 h) (by decide) (by decide)) (fun S3 hS3 => ?_)
          refine f_bp (fun x4 => ?_)
          exact f_some hS3
      · exact f_some hS
  · exact f_some hS
abbrev rm_J0_isLatin1_aae02_s2 : Room := { frames := 0, cells := 0, slots := 0, locals := 0 }
def f_J0_isLatin1_aae02_s2 : Option (Bool) :=
  (if (1 : Int32) = 0 then
  some false
 else
  (if (0 : Int32) = 0 then
  some true
 else
  some false))
set_option maxRecDepth 100000 in
set_option maxHeartbeats 4000000 in
theorem c_J0_isLatin1_aae02_s2 {g : KG} {ws : va_W}  {r : Bool} (h : f_J0_isLatin1_aae02_s2 = some r) : ∀ l, kM l yJ0_isLatin1_aae02 cJ0_isLatin1_aae02 1 (some .boolean) rm_J0_isLatin1_aae02_s2 g [.ref (g.2.2.2 7)] (ws) (ws) (some (.int (b2 r))) 0 0 := by
  refine k_open_z (own := "java/lang/String") (by decide) rfl (Nat.le_of_ble_eq_true rfl) (fun X C hR => ?_)
  refine (?_ : jJ X g (r : Bool) (ws) 0 0 0 [(0, .ref (g.2.2.2 7))] [] (f_J0_isLatin1_aae02_s2)) h
  unfold f_J0_isLatin1_aae02_s2
  refine r_gs_cs (pc := 0) C kw_2_167 dJ0_isLatin1_aae02_0 ?_
  refine r_if_eq 17 (pc := 3) C dJ0_isLatin1_aae02_3 (by decide) ?_ ?_
  · refine r_iconst (pc := 17) C dJ0_isLatin1_aae02_17 (v := 0) (by decide) ?_
    exact r_retPZ hR rfl (pc := 18) dJ0_isLatin1_aae02_18
  · refine r_aload_n (pc := 6) C dJ0_isLatin1_aae02_6 0 rfl ?_
    refine r_sc_2 (pc := 7) C kw_8_95 dJ0_isLatin1_aae02_7 ?_
    refine r_if_ne 17 (pc := 10) C dJ0_isLatin1_aae02_10 (by decide) ?_ ?_
    · refine r_iconst (pc := 17) C dJ0_isLatin1_aae02_17 (v := 0) (by decide) ?_
      exact r_retPZ hR rfl (pc := 18) dJ0_isLatin1_aae02_18
    · refine r_iconst (pc := 13) C dJ0_isLatin1_aae02_13 (v := 1) (by decide) ?_
      refine r_goto 18 (pc := 14) C dJ0_isLatin1_aae02_14 (by decide) ?_
      exact r_retPZ hR rfl (pc := 18) dJ0_isLatin1_aae02_18
abbrev rm_J0_coder_7d493_s2 : Room := { frames := 0, cells := 0, slots := 0, locals := 0 }
def f_J0_coder_7d493_s2 : Option (Int32) :=
  (if (1 : Int32) = 0 then
  some 1
 else
  some 0)
set_option maxRecDepth 100000 in
set_option maxHeartbeats 4000000 in
theorem c_J0_coder_7d493_s2 {g : KG} {ws : va_W}  {r : Int32} (h : f_J0_coder_7d493_s2 = some r) : ∀ l, kM l yJ0_coder_7d493 cJ0_coder_7d493 1 (some .byte) rm_J0_coder_7d493_s2 g [.ref (g.2.2.2 7)] (ws) (ws) (some (.int r)) 0 0 := by
  have hr0 : r = 0 := Option.some.inj (h.symm.trans (by decide : f_J0_coder_7d493_s2 = some 0))
  have hr1 : narrow .byte (.int r) = .int r := by rw [hr0]; decide
  refine k_open_b (own := "java/lang/String") hr1 (by decide) rfl (Nat.le_of_ble_eq_true rfl) (fun X C hR => ?_)
  refine (?_ : jJ X g (r : Int32) (ws) 0 0 0 [(0, .ref (g.2.2.2 7))] [] (f_J0_coder_7d493_s2)) h
  unfold f_J0_coder_7d493_s2
  refine r_gs_cs (pc := 0) C kw_2_167 dJ0_coder_7d493_0 ?_
  refine r_if_eq 13 (pc := 3) C dJ0_coder_7d493_3 (by decide) ?_ ?_
  · refine r_iconst (pc := 13) C dJ0_coder_7d493_13 (v := 1) (by decide) ?_
    exact r_retPI hR (pc := 14) dJ0_coder_7d493_14
  · refine r_aload_n (pc := 6) C dJ0_coder_7d493_6 0 rfl ?_
    refine r_sc_2 (pc := 7) C kw_8_95 dJ0_coder_7d493_7 ?_
    refine r_goto 14 (pc := 10) C dJ0_coder_7d493_10 (by decide) ?_
    exact r_retPI hR (pc := 14) dJ0_coder_7d493_14
abbrev rm_J0_length_8abf5_s2 : Room := { frames := 1, cells := 0, slots := 0, locals := 20 }
def f_J0_length_8abf5_s2 : Option (Int32) :=
  bp f_J0_coder_7d493_s2 (fun x1 =>
  some (5 >>> (x1 &&& 31)))
set_option maxRecDepth 100000 in
set_option maxHeartbeats 4000000 in
theorem c_J0_length_8abf5_s2 {g : KG} {ws : va_W}  {r : Int32} (h : f_J0_length_8abf5_s2 = some r) : ∀ l, kM l yJ0_length_8abf5 cJ0_length_8abf5 1 (some .int) rm_J0_length_8abf5_s2 g [.ref (g.2.2.2 7)] (ws) (ws) (some (.int r)) 0 0 := by
  refine k_open_i (own := "java/lang/String") (by decide) rfl (Nat.le_of_ble_eq_true rfl) (fun X C hR => ?_)
  refine (?_ : jJ X g (r : Int32) (ws) 0 0 0 [(0, .ref (g.2.2.2 7))] [] (f_J0_length_8abf5_s2)) h
  unfold f_J0_length_8abf5_s2
  refine r_aload_n (pc := 0) C dJ0_length_8abf5_0 0 rfl ?_
  refine r_sv_2 (pc := 1) C kw_8_96 dJ0_length_8abf5_1 ?_
  refine r_sbn_2 (pc := 4) C dJ0_length_8abf5_4 ?_
  refine r_aload_n (pc := 5) C dJ0_length_8abf5_5 0 rfl ?_
  refine r_cT2pi (As := []) (st := [.int 5]) (pc := 6) C (fun _ h => c_J0_coder_7d493_s2 h) kY_J0_coder_7d493 kw_2_174 kw_2_175 rfl kw_2_173 rfl ⟨Nat.le_of_ble_eq_true rfl, Nat.le_of_ble_eq_true rfl⟩ rfl rfl ⟨Nat.zero_le _, Nat.zero_le _⟩ rfl (Nat.le_of_ble_eq_true rfl) dJ0_length_8abf5_6 (fun x1 => ?_)
  refine r_ishr (pc := 9) C dJ0_length_8abf5_9 ?_
  exact r_retPI hR (pc := 10) dJ0_length_8abf5_10
abbrev rm_J1_indexOfChar_4cfef_sb2 : Room := { frames := 0, cells := 0, slots := 0, locals := 0 }
def L_J1_indexOfChar_4cfef_sb2_7 (c3 : Int32) (c4 : Int32) (k5 : Option (Int32)) : Nat → Int32 → Option (Int32) := lo1 fun rec3 x2 =>
  (if c3 ≤ x2 then
  k5
 else
  chk x2 5 (
  (if (sB_2.getD x2.toNatClampNeg 0) = c4 then
  some x2
 else
  lt (x2 + 1) fun x7 =>
  rec3 x7)))
set_option maxRecDepth 100000 in
set_option maxHeartbeats 4000000 in
theorem l_J1_indexOfChar_4cfef_sb2_7 {X : KX} {g : KG} {res : Int32} {ws : va_W} (C : kC X g cJ1_indexOfChar_4cfef "java/lang/StringLatin1" rm_J1_indexOfChar_4cfef_sb2 6) (hR : ∀ (pc : Nat) (lv : List (Nat × Value)), decode cJ1_indexOfChar_4cfef pc = .ok (.ireturn, 1) → jW X g (ws) 0 0 pc lv [.int res]) (c3 : Int32) (c4 : Int32) (k5 : Option (Int32)) (hk6 : jJ X g res (ws) 0 0 31 [] [] k5) : ∀ (n : Nat) (x2 : Int32), jJ X g res (ws) 0 0 7 [(0, .ref (g.2.2.2 10)), (3, .int c3), (4, .int c4), (5, .int x2)] [] (L_J1_indexOfChar_4cfef_sb2_7 c3 c4 k5 n x2) := by
  refine r_lo1 (fun x2 => ws) (fun x2 => [(0, .ref (g.2.2.2 10)), (3, .int c3), (4, .int c4), (5, .int x2)]) (fun rec3 ih4 x2 => ?_)
  refine r_iload (pc := 7) C dJ1_indexOfChar_4cfef_7 3 rfl ?_
  refine r_iload_n (pc := 9) C dJ1_indexOfChar_4cfef_9 1 rfl ?_
  refine r_icmp_ge 31 (pc := 10) C dJ1_indexOfChar_4cfef_10 (by decide) ?_ ?_
  · refine r_sub (lv' := []) [] rfl ?_
    exact hk6
  · refine r_aload_n (pc := 13) C dJ1_indexOfChar_4cfef_13 0 rfl ?_
    refine r_iload (pc := 14) C dJ1_indexOfChar_4cfef_14 3 rfl ?_
    refine r_sbl_2 (pc := 16) C dJ1_indexOfChar_4cfef_16 ?_
    refine r_iload (pc := 17) C dJ1_indexOfChar_4cfef_17 2 rfl ?_
    refine r_icmp_ne 25 (pc := 19) C dJ1_indexOfChar_4cfef_19 (by decide) ?_ ?_
    · refine r_iinc (pc := 25) C dJ1_indexOfChar_4cfef_25 (v := 1) (lv' := fun x7 => [(0, .ref (g.2.2.2 10)), (3, .int c3), (4, .int c4), (5, .int x7)]) 3 rfl (by decide) (by decide) [1, 2, 3, 0] (fun _ => rfl) (fun x7 => ?_)
      refine r_goto 7 (pc := 28) C dJ1_indexOfChar_4cfef_28 (by decide) ?_
      exact ih4 x7
    · refine r_iload (pc := 22) C dJ1_indexOfChar_4cfef_22 3 rfl ?_
      exact r_retPI hR (pc := 24) dJ1_indexOfChar_4cfef_24
def f_J1_indexOfChar_4cfef_sb2 (a1 : Int32) (a2 : Int32) (a3 : Int32) : Option (Int32) :=
  lt a1.toInt8.toInt32 fun x1 =>
  L_J1_indexOfChar_4cfef_sb2_7 a3 x1 (some (-1)) FU a2
set_option maxRecDepth 100000 in
set_option maxHeartbeats 4000000 in
theorem c_J1_indexOfChar_4cfef_sb2 {g : KG} {ws : va_W} {a1 : Int32} {a2 : Int32} {a3 : Int32} {r : Int32} (h : f_J1_indexOfChar_4cfef_sb2 a1 a2 a3 = some r) : ∀ l, kM l yJ1_indexOfChar_4cfef cJ1_indexOfChar_4cfef 6 (some .int) rm_J1_indexOfChar_4cfef_sb2 g [.ref (g.2.2.2 10), .int a1, .int a2, .int a3] (ws) (ws) (some (.int r)) 0 0 := by
  refine k_open_i (own := "java/lang/StringLatin1") (by decide) rfl (Nat.le_of_ble_eq_true rfl) (fun X C hR => ?_)
  refine (?_ : jJ X g (r : Int32) (ws) 0 0 0 [(0, .ref (g.2.2.2 10)), (1, .int a1), (2, .int a2), (3, .int a3)] [] (f_J1_indexOfChar_4cfef_sb2 a1 a2 a3)) h
  unfold f_J1_indexOfChar_4cfef_sb2
  refine r_iload_n (pc := 0) C dJ1_indexOfChar_4cfef_0 1 rfl ?_
  refine r_i2b (pc := 1) C dJ1_indexOfChar_4cfef_1 ?_
  refine r_istoreV (pc := 2) C dJ1_indexOfChar_4cfef_2 (lv' := fun x1 => [(0, .ref (g.2.2.2 10)), (1, .int a1), (2, .int a2), (3, .int a3), (4, .int x1)]) (by decide) [1, 2, 3, 4, 0] (fun _ => rfl) (fun x1 => ?_)
  refine r_iload_n (pc := 4) C dJ1_indexOfChar_4cfef_4 2 rfl ?_
  refine r_istore (pc := 5) C dJ1_indexOfChar_4cfef_5 (lv' := [(0, .ref (g.2.2.2 10)), (1, .int a1), (2, .int a2), (3, .int a3), (4, .int x1), (5, .int a2)]) (by decide) [1, 2, 3, 4, 5, 0] rfl ?_
  refine r_sub (lv' := [(0, .ref (g.2.2.2 10)), (3, .int a3), (4, .int x1), (5, .int a2)]) [0, 3, 4, 5] rfl ?_
  refine l_J1_indexOfChar_4cfef_sb2_7 C hR a3 x1 _ (?_) FU a2
  refine r_iconst (pc := 31) C dJ1_indexOfChar_4cfef_31 (v := (-1)) (by decide) ?_
  exact r_retPI hR (pc := 32) dJ1_indexOfChar_4cfef_32
abbrev rm_J1_indexOf_4cfef_sb2 : Room := { frames := 1, cells := 0, slots := 0, locals := 25 }
def f_J1_indexOf_4cfef_sb2 (a1 : Int32) (a2 : Int32) (a3 : Int32) : Option (Int32) :=
  bp (f_J1_canEncode_9a6ad a1) (fun x1 =>
  (if x1 = true then
  lt (if a2 < 0 then 0 else a2) fun x2 =>
  lt (if 5 < a3 then 5 else a3) fun x3 =>
  (if x2 < x3 then
  bp (f_J1_indexOfChar_4cfef_sb2 a1 x2 x3) (fun x4 =>
  some x4)
 else
  some (-1))
 else
  some (-1)))
set_option maxRecDepth 100000 in
set_option maxHeartbeats 4000000 in
theorem c_J1_indexOf_4cfef_sb2 {g : KG} {ws : va_W} {a1 : Int32} {a2 : Int32} {a3 : Int32} {r : Int32} (h : f_J1_indexOf_4cfef_sb2 a1 a2 a3 = some r) : ∀ l, kM l yJ1_indexOf_4cfef cJ1_indexOf_4cfef 4 (some .int) rm_J1_indexOf_4cfef_sb2 g [.ref (g.2.2.2 10), .int a1, .int a2, .int a3] (ws) (ws) (some (.int r)) 0 0 := by
  refine k_open_i (own := "java/lang/StringLatin1") (by decide) rfl (Nat.le_of_ble_eq_true rfl) (fun X C hR => ?_)
  refine (?_ : jJ X g (r : Int32) (ws) 0 0 0 [(0, .ref (g.2.2.2 10)), (1, .int a1), (2, .int a2), (3, .int a3)] [] (f_J1_indexOf_4cfef_sb2 a1 a2 a3)) h
  unfold f_J1_indexOf_4cfef_sb2
  refine r_iload_n (pc := 0) C dJ1_indexOf_4cfef_0 1 rfl ?_
  refine r_cSpz (As := [.int a1]) (st := []) (pc := 1) C (fun _ h => c_J1_canEncode_9a6ad h) kY_J1_canEncode_9a6ad kw_2_181 kw_2_180 rfl ⟨Nat.le_of_ble_eq_true rfl, Nat.le_of_ble_eq_true rfl⟩ rfl rfl ⟨Nat.zero_le _, Nat.zero_le _⟩ rfl (Nat.le_of_ble_eq_true rfl) dJ1_indexOf_4cfef_1 (fun x1 => ?_)
  refine r_ifb_ne 9 (pc := 4) C dJ1_indexOf_4cfef_4 (by decide) ?_ ?_
  · refine r_iload_n (pc := 9) C dJ1_indexOf_4cfef_9 2 rfl ?_
    refine r_iconst (pc := 10) C dJ1_indexOf_4cfef_10 (v := 0) (by decide) ?_
    refine r_mmax (st := []) (pc := 11) C kw_2_183 (Nat.le_of_ble_eq_true rfl) (Nat.le_of_ble_eq_true rfl) ⟨Nat.zero_le _, Nat.zero_le _⟩ dJ1_indexOf_4cfef_11 ?_
    refine r_istoreV_n (pc := 14) C dJ1_indexOf_4cfef_14 (lv' := fun x2 => [(0, .ref (g.2.2.2 10)), (1, .int a1), (2, .int x2), (3, .int a3)]) (by decide) [1, 2, 0, 3] (fun _ => rfl) (fun x2 => ?_)
    refine r_iload_n (pc := 15) C dJ1_indexOf_4cfef_15 3 rfl ?_
    refine r_aload_n (pc := 16) C dJ1_indexOf_4cfef_16 0 rfl ?_
    refine r_sbn_2 (pc := 17) C dJ1_indexOf_4cfef_17 ?_
    refine r_mmin (st := []) (pc := 18) C kw_2_184 (Nat.le_of_ble_eq_true rfl) (Nat.le_of_ble_eq_true rfl) ⟨Nat.zero_le _, Nat.zero_le _⟩ dJ1_indexOf_4cfef_18 ?_
    refine r_istoreV_n (pc := 21) C dJ1_indexOf_4cfef_21 (lv' := fun x3 => [(0, .ref (g.2.2.2 10)), (1, .int a1), (2, .int x2), (3, .int x3)]) (by decide) [1, 2, 3, 0] (fun _ => rfl) (fun x3 => ?_)
    refine r_iload_n (pc := 22) C dJ1_indexOf_4cfef_22 2 rfl ?_
    refine r_iload_n (pc := 23) C dJ1_indexOf_4cfef_23 3 rfl ?_
    refine r_icmp_lt 29 (pc := 24) C dJ1_indexOf_4cfef_24 (by decide) ?_ ?_
    · refine r_aload_n (pc := 29) C dJ1_indexOf_4cfef_29 0 rfl ?_
      refine r_iload_n (pc := 30) C dJ1_indexOf_4cfef_30 1 rfl ?_
      refine r_iload_n (pc := 31) C dJ1_indexOf_4cfef_31 2 rfl ?_
      refine r_iload_n (pc := 32) C dJ1_indexOf_4cfef_32 3 rfl ?_
      refine r_cSpi (As := [.ref (g.2.2.2 10), .int a1, .int x2, .int x3]) (st := []) (pc := 33) C (fun _ h => c_J1_indexOfChar_4cfef_sb2 h) kY_J1_indexOfChar_4cfef kw_2_188 kw_2_187 rfl ⟨Nat.le_of_ble_eq_true rfl, Nat.le_of_ble_eq_true rfl⟩ rfl rfl ⟨Nat.zero_le _, Nat.zero_le _⟩ rfl (Nat.le_of_ble_eq_true rfl) dJ1_indexOf_4cfef_33 (fun x4 => ?_)
      exact r_retPI hR (pc := 36) dJ1_indexOf_4cfef_36
    · refine r_iconst (pc := 27) C dJ1_indexOf_4cfef_27 (v := (-1)) (by decide) ?_
      exact r_retPI hR (pc := 28) dJ1_indexOf_4cfef_28
  · refine r_iconst (pc := 7) C dJ1_indexOf_4cfef_7 (v := (-1)) (by decide) ?_
    exact r_retPI hR (pc := 8) dJ1_indexOf_4cfef_8
abbrev rm_J0_indexOf_7cf53_s2 : Room := { frames := 2, cells := 0, slots := 0, locals := 48 }
def f_J0_indexOf_7cf53_s2 (a1 : Int32) (a2 : Int32) : Option (Int32) :=
  bp f_J0_isLatin1_aae02_s2 (fun x1 =>
  (if x1 = true then
  bp f_J0_length_8abf5_s2 (fun x2 =>
  bp (f_J1_indexOf_4cfef_sb2 a1 a2 x2) (fun x3 =>
  some x3))
 else
  none))
set_option maxRecDepth 100000 in
set_option maxHeartbeats 4000000 in
theorem c_J0_indexOf_7cf53_s2 {g : KG} {ws : va_W} {a1 : Int32} {a2 : Int32} {r : Int32} (h : f_J0_indexOf_7cf53_s2 a1 a2 = some r) : ∀ l, kM l yJ0_indexOf_7cf53 cJ0_indexOf_7cf53 3 (some .int) rm_J0_indexOf_7cf53_s2 g [.ref (g.2.2.2 7), .int a1, .int a2] (ws) (ws) (some (.int r)) 0 0 := by
  refine k_open_i (own := "java/lang/String") (by decide) rfl (Nat.le_of_ble_eq_true rfl) (fun X C hR => ?_)
  refine (?_ : jJ X g (r : Int32) (ws) 0 0 0 [(0, .ref (g.2.2.2 7)), (1, .int a1), (2, .int a2)] [] (f_J0_indexOf_7cf53_s2 a1 a2)) h
  unfold f_J0_indexOf_7cf53_s2
  refine r_aload_n (pc := 0) C dJ0_indexOf_7cf53_0 0 rfl ?_
  refine r_cT2pz (As := []) (st := []) (pc := 1) C (fun _ h => c_J0_isLatin1_aae02_s2 h) kY_J0_isLatin1_aae02 kw_2_164 kw_2_165 rfl kw_2_163 rfl ⟨Nat.le_of_ble_eq_true rfl, Nat.le_of_ble_eq_true rfl⟩ rfl rfl ⟨Nat.zero_le _, Nat.zero_le _⟩ rfl (Nat.le_of_ble_eq_true rfl) dJ0_indexOf_7cf53_1 (fun x1 => ?_)
  refine r_ifb_eq 23 (pc := 4) C dJ0_indexOf_7cf53_4 (by decide) ?_ ?_
  · exact fun hF => by cases hF
  · refine r_aload_n (pc := 7) C dJ0_indexOf_7cf53_7 0 rfl ?_
    refine r_sv_2 (pc := 8) C kw_8_96 dJ0_indexOf_7cf53_8 ?_
    refine r_iload_n (pc := 11) C dJ0_indexOf_7cf53_11 1 rfl ?_
    refine r_iload_n (pc := 12) C dJ0_indexOf_7cf53_12 2 rfl ?_
    refine r_aload_n (pc := 13) C dJ0_indexOf_7cf53_13 0 rfl ?_
    refine r_cT2pi (As := []) (st := [.int a2, .int a1, .ref (g.2.2.2 10)]) (pc := 14) C (fun _ h => c_J0_length_8abf5_s2 h) kY_J0_length_8abf5 kw_2_170 kw_2_171 rfl kw_2_169 rfl ⟨Nat.le_of_ble_eq_true rfl, Nat.le_of_ble_eq_true rfl⟩ rfl rfl ⟨Nat.zero_le _, Nat.zero_le _⟩ rfl (Nat.le_of_ble_eq_true rfl) dJ0_indexOf_7cf53_14 (fun x2 => ?_)
    refine r_cSpi (As := [.ref (g.2.2.2 10), .int a1, .int a2, .int x2]) (st := []) (pc := 17) C (fun _ h => c_J1_indexOf_4cfef_sb2 h) kY_J1_indexOf_4cfef kw_2_178 kw_2_177 rfl ⟨Nat.le_of_ble_eq_true rfl, Nat.le_of_ble_eq_true rfl⟩ rfl rfl ⟨Nat.zero_le _, Nat.zero_le _⟩ rfl (Nat.le_of_ble_eq_true rfl) dJ0_indexOf_7cf53_17 (fun x3 => ?_)
    refine r_goto 36 (pc := 20) C dJ0_indexOf_7cf53_20 (by decide) ?_
    exact r_retPI hR (pc := 36) dJ0_indexOf_7cf53_36
abbrev rm_J0_indexOf_0f7a4_s2 : Room := { frames := 3, cells := 0, slots := 0, locals := 70 }
def f_J0_indexOf_0f7a4_s2 (a1 : Int32) : Option (Int32) :=
  bp (f_J0_indexOf_7cf53_s2 a1 0) (fun x1 =>
  some x1)
set_option maxRecDepth 100000 in
set_option maxHeartbeats 4000000 in
theorem c_J0_indexOf_0f7a4_s2 {g : KG} {ws : va_W} {a1 : Int32} {r : Int32} (h : f_J0_indexOf_0f7a4_s2 a1 = some r) : ∀ l, kM l yJ0_indexOf_0f7a4 cJ0_indexOf_0f7a4 2 (some .int) rm_J0_indexOf_0f7a4_s2 g [.ref (g.2.2.2 7), .int a1] (ws) (ws) (some (.int r)) 0 0 := by
  refine k_open_i (own := "java/lang/String") (by decide) rfl (Nat.le_of_ble_eq_true rfl) (fun X C hR => ?_)
  refine (?_ : jJ X g (r : Int32) (ws) 0 0 0 [(0, .ref (g.2.2.2 7)), (1, .int a1)] [] (f_J0_indexOf_0f7a4_s2 a1)) h
  unfold f_J0_indexOf_0f7a4_s2
  refine r_aload_n (pc := 0) C dJ0_indexOf_0f7a4_0 0 rfl ?_
  refine r_iload_n (pc := 1) C dJ0_indexOf_0f7a4_1 1 rfl ?_
  refine r_iconst (pc := 2) C dJ0_indexOf_0f7a4_2 (v := 0) (by decide) ?_
  refine r_cT2pi (As := [.int a1, .int 0]) (st := []) (pc := 3) C (fun _ h => c_J0_indexOf_7cf53_s2 h) kY_J0_indexOf_7cf53 kw_2_160 kw_2_161 rfl kw_2_159 rfl ⟨Nat.le_of_ble_eq_true rfl, Nat.le_of_ble_eq_true rfl⟩ rfl rfl ⟨Nat.zero_le _, Nat.zero_le _⟩ rfl (Nat.le_of_ble_eq_true rfl) dJ0_indexOf_0f7a4_3 (fun x1 => ?_)
  exact r_retPI hR (pc := 6) dJ0_indexOf_0f7a4_6
abbrev rm_X0_readAct : Room := { frames := 4, cells := 0, slots := 0, locals := 91 }
theorem kY_X0_readAct : kY yX0_readAct cX0_readAct 5 (some .boolean) 2 := ⟨kw_1_8, kw_5_107, by decide, by decide, by decide +kernel⟩
def L_X0_readAct_51 (c2 : Int32) (c3 : Int32) (k14 : CS → Option (Bool × CS)) : Nat → CS → Int32 → Option (Bool × CS) := lo2 fun rec12 S11 x10 =>
  chk c3 5 (
  (if (sT_4.getD c3.toNatClampNeg 0) ≤ x10 then
  k14 S11
 else
  bw (f_X10_readNumber S11) (fun x16 S17 =>
  (if x16 = true then
  chk ((c2 * 3) + x10) 90 (lt (ca S17 32 (upd (S17.2.1 32) ((c2 * 3) + x10).toNatClampNeg (S17.1 3))) fun S18 =>
  chk c3 5 (
  jn1 (fun (x19 : Int32) =>
  bw (f_X10_pass S18 x19) (fun x20 S21 =>
  (if x20 = true then
  lt (x10 + 1) fun x22 =>
  rec12 S21 x22
 else
  some (false, S21)))) (fun k23 =>
  (if x10 = ((sT_4.getD c3.toNatClampNeg 0) - 1) then
  k23 59
 else
  k23 44))))
 else
  some (false, S17)))))
set_option maxRecDepth 100000 in
set_option maxHeartbeats 4000000 in
theorem l_X0_readAct_51 {X : KX} {g : KG} {q : Nat → Nat} {E : va_W} {res : Bool × CS} (C : kC X g cX0_readAct "MarkChains$Acts" rm_X0_readAct 5) (hR : ∀ (pc : Nat) (lv : List (Nat × Value)), decode cX0_readAct pc = .ok (.ireturn, 1) → jW X g (cx g q E res.2) 0 0 pc lv [.int (b2 res.1)]) (c2 : Int32) (c3 : Int32) (k14 : CS → Option (Bool × CS)) (hk15 : ∀ (S25 : CS), jJ X g res (cx g q E S25) 0 0 119 [] [] (k14 S25)) : ∀ (n : Nat) (S11 : CS) (x10 : Int32), jJ X g res (cx g q E S11) 0 0 51 [(0, .ref (q 30)), (1, .ref (q 1)), (2, .int c2), (3, .int c3), (4, .int x10)] [] (L_X0_readAct_51 c2 c3 k14 n S11 x10) := by
  refine r_lo2 (fun S11 x10 => cx g q E S11) (fun S11 x10 => [(0, .ref (q 30)), (1, .ref (q 1)), (2, .int c2), (3, .int c3), (4, .int x10)]) (fun rec12 ih13 S11 x10 => ?_)
  refine r_iload (pc := 51) C dX0_readAct_51 4 rfl ?_
  refine r_gs_4 (pc := 53) C kw_5_111 dX0_readAct_53 ?_
  refine r_iload_n (pc := 56) C dX0_readAct_56 3 rfl ?_
  refine r_sl_4 (pc := 57) C dX0_readAct_57 ?_
  refine r_icmp_ge 119 (pc := 58) C dX0_readAct_58 (by decide) ?_ ?_
  · refine r_sub (lv' := []) [] rfl ?_
    exact hk15 S11
  · refine r_aload_n (pc := 61) C dX0_readAct_61 1 rfl ?_
    refine r_cVwz (As := []) (st := []) (wf := cx g q E) (pc := 62) C (fun _ _ h => c_X10_readNumber h) kY_X10_readNumber kw_3_20 kw_3_21 kw_5_115 rfl ⟨Nat.le_of_ble_eq_true rfl, Nat.le_of_ble_eq_true rfl⟩ rfl rfl ⟨Nat.zero_le _, Nat.zero_le _⟩ 1 rfl rfl rfl (Nat.le_of_ble_eq_true rfl) dX0_readAct_62 (fun x16 S17 => ?_)
    refine r_ifb_ne 70 (pc := 65) C dX0_readAct_65 (by decide) ?_ ?_
    · refine r_aload_n (pc := 70) C dX0_readAct_70 0 rfl ?_
      refine xg_ac_numbers (pc := 71) C kw_1_222 dX0_readAct_71 ?_
      refine r_iload_n (pc := 74) C dX0_readAct_74 2 rfl ?_
      refine r_iconst (pc := 75) C dX0_readAct_75 (v := 3) (by decide) ?_
      refine r_imul (pc := 76) C dX0_readAct_76 ?_
      refine r_iload (pc := 77) C dX0_readAct_77 4 rfl ?_
      refine r_iadd (pc := 79) C dX0_readAct_79 ?_
      refine r_aload_n (pc := 80) C dX0_readAct_80 1 rfl ?_
      refine xgN_tp_number (pc := 81) C knf_1 dX0_readAct_81 ?_
      refine xs_ac_numbers (pc := 84) C dX0_readAct_84 (fun S18 => ?_)
      refine r_aload_n (pc := 85) C dX0_readAct_85 1 rfl ?_
      refine r_iload (pc := 86) C dX0_readAct_86 4 rfl ?_
      refine r_gs_4 (pc := 88) C kw_5_111 dX0_readAct_88 ?_
      refine r_iload_n (pc := 91) C dX0_readAct_91 3 rfl ?_
      refine r_sl_4 (pc := 92) C dX0_readAct_92 ?_
      refine r_iconst (pc := 93) C dX0_readAct_93 (v := 1) (by decide) ?_
      refine r_isub (pc := 94) C dX0_readAct_94 ?_
      refine r_jn1 105 (fun (x19 : Int32) => cx g q E S18) (fun (x19 : Int32) => [(0, .ref (q 30)), (1, .ref (q 1)), (2, .int c2), (3, .int c3), (4, .int x10)]) (fun (x19 : Int32) => [.int x19, .ref (q 1)]) (fun x19 => ?_) (fun k23 hk24 => ?_)
      · refine r_cVwz (As := [.int x19]) (st := []) (wf := cx g q E) (pc := 105) C (fun _ _ h => c_X10_pass h) kY_X10_pass kw_3_54 kw_3_55 kw_5_116 rfl ⟨Nat.le_of_ble_eq_true rfl, Nat.le_of_ble_eq_true rfl⟩ rfl rfl ⟨Nat.zero_le _, Nat.zero_le _⟩ 1 rfl rfl rfl (Nat.le_of_ble_eq_true rfl) dX0_readAct_105 (fun x20 S21 => ?_)
        refine r_ifb_ne 113 (pc := 108) C dX0_readAct_108 (by decide) ?_ ?_
        · refine r_iinc (pc := 113) C dX0_readAct_113 (v := 1) (lv' := fun x22 => [(0, .ref (q 30)), (1, .ref (q 1)), (2, .int c2), (3, .int c3), (4, .int x22)]) 4 rfl (by decide) (by decide) [1, 2, 3, 4, 0] (fun _ => rfl) (fun x22 => ?_)
          refine r_goto 51 (pc := 116) C dX0_readAct_116 (by decide) ?_
          exact ih13 S21 x22
        · refine r_iconst (pc := 111) C dX0_readAct_111 (v := 0) (by decide) ?_
          exact r_retWZ hR rfl (pc := 112) dX0_readAct_112
      · refine r_icmp_ne 103 (pc := 95) C dX0_readAct_95 (by decide) ?_ ?_
        · refine r_bipush (pc := 103) C dX0_readAct_103 (v := 44) (by decide) ?_
          exact hk24 44
        · refine r_bipush (pc := 98) C dX0_readAct_98 (v := 59) (by decide) ?_
          refine r_goto 105 (pc := 100) C dX0_readAct_100 (by decide) ?_
          exact hk24 59
    · refine r_iconst (pc := 68) C dX0_readAct_68 (v := 0) (by decide) ?_
      exact r_retWZ hR rfl (pc := 69) dX0_readAct_69
set_option maxRecDepth 100000 in
theorem v_X0_readAct_51 {S0 : CS} {c2 : Int32} {c3 : Int32} {k14 : CS → Option (Bool × CS)} (hk15 : ∀ (S25 : CS), (gI [2, 3, 4, 5] [31, 32] S0) S25 → jf (gI [2, 3, 4, 5] [31, 32] S0) Prod.snd (k14 S25)) : ∀ (n : Nat) (S11 : CS) (x10 : Int32), (gI [2, 3, 4, 5] [31, 32] S0) S11 → jf (gI [2, 3, 4, 5] [31, 32] S0) Prod.snd (L_X0_readAct_51 c2 c3 k14 n S11 x10) := by
  refine f_lo2 (I := (gI [2, 3, 4, 5] [31, 32] S0)) (fun S11 x10 => S11) (fun rec12 ih13 S11 x10 hS11 => ?_)
  refine f_chk ?_
  refine f_ite ?_ ?_
  · exact hk15 S11 hS11
  · refine f_bwS (fun _ _ h => gI_tr hS11 (w_X10_readNumber h) (by decide) (by decide)) (fun x16 S17 hS17 => ?_)
    refine f_ite ?_ ?_
    · refine f_chk (f_ltS (gI_ca hS17 (by decide)) (fun S18 hS18 => ?_))
      refine f_chk ?_
      refine f_jm1 hS18 (fun x19 hS18 => ?_) (fun k23 hk24 => ?_)
      · refine f_bwS (fun _ _ h => gI_tr hS18 (w_X10_pass h) (by decide) (by decide)) (fun x20 S21 hS21 => ?_)
        refine f_ite ?_ ?_
        · refine f_lt (fun x22 => ?_)
          exact ih13 S21 x22 hS21
        · exact f_some hS21
      · refine f_ite ?_ ?_
        · exact hk24 59 hS18
        · exact hk24 44 hS18
    · exact f_some hS17
def f_X0_readAct (S : CS) (a2 : Int32) : Option (Bool × CS) :=
  bp (f_X10_peek S) (fun x1 =>
  bp (f_J0_indexOf_0f7a4_s2 ((x1.toUInt32 % 65536).toInt32)) (fun x2 =>
  (if x2 < 0 then
  bw (f_X10_failHere S) (fun x3 S4 =>
  some (x3, S4))
 else
  (if 5 ≤ x2 then
  bw (f_X10_failHere S) (fun x5 S6 =>
  some (x5, S6))
 else
  (if a2 < 30 then
  bp (f_X10_peek S) (fun x7 =>
  chk a2 30 (lt (ca S 31 (upd (S.2.1 31) a2.toNatClampNeg x7)) fun S8 =>
  bp (f_X10_step S8) (fun S9 =>
  L_X0_readAct_51 a2 x2 (fun S26 =>
  some (true, S26)) FU S9 0)))
 else
  bw (f_X10_failHere S) (fun x27 S28 =>
  some (x27, S28)))))))
set_option maxRecDepth 100000 in
set_option maxHeartbeats 4000000 in
theorem c_X0_readAct {g : KG} {q : Nat → Nat} {E : va_W} {S : CS} {a2 : Int32} {r : Bool} {S' : CS} (h : f_X0_readAct S a2 = some (r, S')) : ∀ l, kM l yX0_readAct cX0_readAct 5 (some .boolean) rm_X0_readAct g [.ref (q 30), .ref (q 1), .int a2] (cx g q E S) (cx g q E S') (some (.int (b2 r))) 0 0 := by
  refine k_open_z (own := "MarkChains$Acts") (by decide) rfl (Nat.le_of_ble_eq_true rfl) (fun X C hR => ?_)
  refine (?_ : jJ X g ((r, S') : Bool × CS) (cx g q E S) 0 0 0 [(0, .ref (q 30)), (1, .ref (q 1)), (2, .int a2)] [] (f_X0_readAct S a2)) h
  unfold f_X0_readAct
  refine r_str_2 (pc := 0) C dX0_readAct_0 ?_
  refine r_aload_n (pc := 2) C dX0_readAct_2 1 rfl ?_
  refine r_cVpi (As := []) (st := [.ref (g.2.2.2 7)]) (pc := 3) C (fun _ h => c_X10_peek h) kY_X10_peek kw_2_152 kw_2_153 kw_5_109 rfl ⟨Nat.le_of_ble_eq_true rfl, Nat.le_of_ble_eq_true rfl⟩ rfl rfl ⟨Nat.zero_le _, Nat.zero_le _⟩ 1 rfl rfl rfl (Nat.le_of_ble_eq_true rfl) dX0_readAct_3 (fun x1 => ?_)
  refine r_i2c (pc := 6) C dX0_readAct_6 ?_
  refine r_cT2pi (As := [.int ((x1.toUInt32 % 65536).toInt32)]) (st := []) (pc := 7) C (fun _ h => c_J0_indexOf_0f7a4_s2 h) kY_J0_indexOf_0f7a4 kw_2_156 kw_2_157 rfl kw_5_110 rfl ⟨Nat.le_of_ble_eq_true rfl, Nat.le_of_ble_eq_true rfl⟩ rfl rfl ⟨Nat.zero_le _, Nat.zero_le _⟩ rfl (Nat.le_of_ble_eq_true rfl) dX0_readAct_7 (fun x2 => ?_)
  refine r_istore_n (pc := 10) C dX0_readAct_10 (lv' := [(0, .ref (q 30)), (1, .ref (q 1)), (2, .int a2), (3, .int x2)]) (by decide) [1, 2, 3, 0] rfl ?_
  refine r_iload_n (pc := 11) C dX0_readAct_11 3 rfl ?_
  refine r_if_lt 29 (pc := 12) C dX0_readAct_12 (by decide) ?_ ?_
  · refine r_aload_n (pc := 29) C dX0_readAct_29 1 rfl ?_
    refine r_cVwz (As := []) (st := []) (wf := cx g q E) (pc := 30) C (fun _ _ h => c_X10_failHere h) kY_X10_failHere kw_3_12 kw_3_13 kw_5_113 rfl ⟨Nat.le_of_ble_eq_true rfl, Nat.le_of_ble_eq_true rfl⟩ rfl rfl ⟨Nat.zero_le _, Nat.zero_le _⟩ 1 rfl rfl rfl (Nat.le_of_ble_eq_true rfl) dX0_readAct_30 (fun x3 S4 => ?_)
    exact r_retWZ hR rfl (pc := 33) dX0_readAct_33
  · refine r_iload_n (pc := 15) C dX0_readAct_15 3 rfl ?_
    refine r_gs_4 (pc := 16) C kw_5_111 dX0_readAct_16 ?_
    refine r_sn_4 (pc := 19) C dX0_readAct_19 ?_
    refine r_icmp_ge 29 (pc := 20) C dX0_readAct_20 (by decide) ?_ ?_
    · refine r_aload_n (pc := 29) C dX0_readAct_29 1 rfl ?_
      refine r_cVwz (As := []) (st := []) (wf := cx g q E) (pc := 30) C (fun _ _ h => c_X10_failHere h) kY_X10_failHere kw_3_12 kw_3_13 kw_5_113 rfl ⟨Nat.le_of_ble_eq_true rfl, Nat.le_of_ble_eq_true rfl⟩ rfl rfl ⟨Nat.zero_le _, Nat.zero_le _⟩ 1 rfl rfl rfl (Nat.le_of_ble_eq_true rfl) dX0_readAct_30 (fun x5 S6 => ?_)
      exact r_retWZ hR rfl (pc := 33) dX0_readAct_33
    · refine r_iload_n (pc := 23) C dX0_readAct_23 2 rfl ?_
      refine r_bipush (pc := 24) C dX0_readAct_24 (v := 30) (by decide) ?_
      refine r_icmp_lt 34 (pc := 26) C dX0_readAct_26 (by decide) ?_ ?_
      · refine r_aload_n (pc := 34) C dX0_readAct_34 0 rfl ?_
        refine xg_ac_letters (pc := 35) C kw_1_221 dX0_readAct_35 ?_
        refine r_iload_n (pc := 38) C dX0_readAct_38 2 rfl ?_
        refine r_aload_n (pc := 39) C dX0_readAct_39 1 rfl ?_
        refine r_cVpi (As := []) (st := [.int a2, .ref (q 31)]) (pc := 40) C (fun _ h => c_X10_peek h) kY_X10_peek kw_2_152 kw_2_153 kw_5_109 rfl ⟨Nat.le_of_ble_eq_true rfl, Nat.le_of_ble_eq_true rfl⟩ rfl rfl ⟨Nat.zero_le _, Nat.zero_le _⟩ 1 rfl rfl rfl (Nat.le_of_ble_eq_true rfl) dX0_readAct_40 (fun x7 => ?_)
        refine xs_ac_letters (pc := 43) C dX0_readAct_43 (fun S8 => ?_)
        refine r_aload_n (pc := 44) C dX0_readAct_44 1 rfl ?_
        refine r_cVwv (As := []) (st := []) (wf := cx g q E) (pc := 45) C (fun _ h => c_X10_step h) kY_X10_step kw_3_16 kw_3_17 kw_5_114 rfl ⟨Nat.le_of_ble_eq_true rfl, Nat.le_of_ble_eq_true rfl⟩ rfl rfl ⟨Nat.zero_le _, Nat.zero_le _⟩ 1 rfl rfl rfl (Nat.le_of_ble_eq_true rfl) dX0_readAct_45 (fun S9 => ?_)
        refine r_iconst (pc := 48) C dX0_readAct_48 (v := 0) (by decide) ?_
        refine r_istore (pc := 49) C dX0_readAct_49 (lv' := [(0, .ref (q 30)), (1, .ref (q 1)), (2, .int a2), (3, .int x2), (4, .int 0)]) (by decide) [1, 2, 3, 4, 0] rfl ?_
        refine l_X0_readAct_51 C hR a2 x2 _ (fun S26 => ?_) FU S9 0
        refine r_iconst (pc := 119) C dX0_readAct_119 (v := 1) (by decide) ?_
        exact r_retWZ hR rfl (pc := 120) dX0_readAct_120
      · refine r_aload_n (pc := 29) C dX0_readAct_29 1 rfl ?_
        refine r_cVwz (As := []) (st := []) (wf := cx g q E) (pc := 30) C (fun _ _ h => c_X10_failHere h) kY_X10_failHere kw_3_12 kw_3_13 kw_5_113 rfl ⟨Nat.le_of_ble_eq_true rfl, Nat.le_of_ble_eq_true rfl⟩ rfl rfl ⟨Nat.zero_le _, Nat.zero_le _⟩ 1 rfl rfl rfl (Nat.le_of_ble_eq_true rfl) dX0_readAct_30 (fun x27 S28 => ?_)
        exact r_retWZ hR rfl (pc := 33) dX0_readAct_33
set_option maxRecDepth 100000 in
theorem w_X0_readAct {S : CS} {a2 : Int32} {r : Bool} {S' : CS} (h : f_X0_readAct S a2 = some (r, S')) : gI [2, 3, 4, 5] [31, 32] S S' := by
  have hS : gI [2, 3, 4, 5] [31, 32] S S := gI_rf
  refine (?_ : jf (gI [2, 3, 4, 5] [31, 32] S) Prod.snd (f_X0_readAct S a2)) _ h
  unfold f_X0_readAct
  refine f_bp (fun x1 => ?_)
  refine f_bp (fun x2 => ?_)
  refine f_ite ?_ ?_
  · refine f_bwS (fun _ _ h => gI_tr hS (w_X10_failHere h) (by decide) (by decide)) (fun x3 S4 hS4 => ?_)
    exact f_some hS4
  · refine f_ite ?_ ?_
    · refine f_bwS (fun _ _ h => gI_tr hS (w_X10_failHere h) (by decide) (by decide)) (fun x5 S6 hS6 => ?_)
      exact f_some hS6
    · refine f_ite ?_ ?_
      · refine f_bp (fun x7 => ?_)
        refine f_chk (f_ltS (gI_ca hS (by decide)) (fun S8 hS8 => ?_))
        refine f_bpS (fun _ h => gI_tr hS8 (w_X10_step h) (by decide) (by decide)) (fun S9 hS9 => ?_)
        refine v_X0_readAct_51 (fun S26 hS26 => ?_) FU S9 0 hS9
        exact f_some hS26
      · refine f_bwS (fun _ _ h => gI_tr hS (w_X10_failHere h) (by decide) (by decide)) (fun x27 S28 hS28 => ?_)
        exact f_some hS28
abbrev rm_X0_readFrom : Room := { frames := 5, cells := 0, slots := 0, locals := 115 }
theorem kY_X0_readFrom : kY yX0_readFrom cX0_readFrom 3 (some .int) 1 := ⟨kw_1_8, kw_5_102, by decide, by decide, by decide +kernel⟩
def L_X0_readFrom_2 (k5 : CS → Int32 → Option (Int32 × CS)) : Nat → CS → Int32 → Option (Int32 × CS) := lo2 fun rec3 S2 x1 =>
  (if 30 < x1 then
  k5 S2 x1
 else
  bp (f_X10_isOver S2) (fun x7 =>
  (if x7 = true then
  k5 S2 x1
 else
  bw (f_X0_readAct S2 x1) (fun x8 S9 =>
  (if x8 = true then
  lt (x1 + 1) fun x10 =>
  rec3 S9 x10
 else
  some ((-1), S9))))))
set_option maxRecDepth 100000 in
set_option maxHeartbeats 4000000 in
theorem l_X0_readFrom_2 {X : KX} {g : KG} {q : Nat → Nat} {E : va_W} {res : Int32 × CS} (C : kC X g cX0_readFrom "MarkChains$Acts" rm_X0_readFrom 3) (hR : ∀ (pc : Nat) (lv : List (Nat × Value)), decode cX0_readFrom pc = .ok (.ireturn, 1) → jW X g (cx g q E res.2) 0 0 pc lv [.int res.1]) (k5 : CS → Int32 → Option (Int32 × CS)) (hk6 : ∀ (S11 : CS) (x12 : Int32), jJ X g res (cx g q E S11) 0 0 32 [(2, .int x12)] [] (k5 S11 x12)) : ∀ (n : Nat) (S2 : CS) (x1 : Int32), jJ X g res (cx g q E S2) 0 0 2 [(0, .ref (q 30)), (1, .ref (q 1)), (2, .int x1)] [] (L_X0_readFrom_2 k5 n S2 x1) := by
  refine r_lo2 (fun S2 x1 => cx g q E S2) (fun S2 x1 => [(0, .ref (q 30)), (1, .ref (q 1)), (2, .int x1)]) (fun rec3 ih4 S2 x1 => ?_)
  refine r_iload_n (pc := 2) C dX0_readFrom_2 2 rfl ?_
  refine r_bipush (pc := 3) C dX0_readFrom_3 (v := 30) (by decide) ?_
  refine r_icmp_gt 32 (pc := 5) C dX0_readFrom_5 (by decide) ?_ ?_
  · refine r_sub (lv' := [(2, .int x1)]) [2] rfl ?_
    exact hk6 S2 x1
  · refine r_aload_n (pc := 8) C dX0_readFrom_8 1 rfl ?_
    refine r_cVpz (As := []) (st := []) (pc := 9) C (fun _ h => c_X10_isOver h) kY_X10_isOver kw_2_143 kw_2_144 kw_5_103 rfl ⟨Nat.le_of_ble_eq_true rfl, Nat.le_of_ble_eq_true rfl⟩ rfl rfl ⟨Nat.zero_le _, Nat.zero_le _⟩ 1 rfl rfl rfl (Nat.le_of_ble_eq_true rfl) dX0_readFrom_9 (fun x7 => ?_)
    refine r_ifb_ne 32 (pc := 12) C dX0_readFrom_12 (by decide) ?_ ?_
    · refine r_sub (lv' := [(2, .int x1)]) [2] rfl ?_
      exact hk6 S2 x1
    · refine r_aload_n (pc := 15) C dX0_readFrom_15 0 rfl ?_
      refine r_aload_n (pc := 16) C dX0_readFrom_16 1 rfl ?_
      refine r_iload_n (pc := 17) C dX0_readFrom_17 2 rfl ?_
      refine r_cVwz (As := [.ref (q 1), .int x1]) (st := []) (wf := cx g q E) (pc := 18) C (fun _ _ h => c_X0_readAct h) kY_X0_readAct kw_5_106 kw_0_32 kw_5_104 rfl ⟨Nat.le_of_ble_eq_true rfl, Nat.le_of_ble_eq_true rfl⟩ rfl rfl ⟨Nat.zero_le _, Nat.zero_le _⟩ 30 rfl rfl rfl (Nat.le_of_ble_eq_true rfl) dX0_readFrom_18 (fun x8 S9 => ?_)
      refine r_ifb_ne 26 (pc := 21) C dX0_readFrom_21 (by decide) ?_ ?_
      · refine r_iinc (pc := 26) C dX0_readFrom_26 (v := 1) (lv' := fun x10 => [(0, .ref (q 30)), (1, .ref (q 1)), (2, .int x10)]) 2 rfl (by decide) (by decide) [1, 2, 0] (fun _ => rfl) (fun x10 => ?_)
        refine r_goto 2 (pc := 29) C dX0_readFrom_29 (by decide) ?_
        exact ih4 S9 x10
      · refine r_iconst (pc := 24) C dX0_readFrom_24 (v := (-1)) (by decide) ?_
        exact r_retWI (wf := cx g q E) hR (pc := 25) dX0_readFrom_25
set_option maxRecDepth 100000 in
theorem v_X0_readFrom_2 {S0 : CS} {k5 : CS → Int32 → Option (Int32 × CS)} (hk6 : ∀ (S11 : CS) (x12 : Int32), (gI [2, 3, 4, 5] [31, 32] S0) S11 → jf (gI [2, 3, 4, 5] [31, 32] S0) Prod.snd (k5 S11 x12)) : ∀ (n : Nat) (S2 : CS) (x1 : Int32), (gI [2, 3, 4, 5] [31, 32] S0) S2 → jf (gI [2, 3, 4, 5] [31, 32] S0) Prod.snd (L_X0_readFrom_2 k5 n S2 x1) := by
  refine f_lo2 (I := (gI [2, 3, 4, 5] [31, 32] S0)) (fun S2 x1 => S2) (fun rec3 ih4 S2 x1 hS2 => ?_)
  refine f_ite ?_ ?_
  · exact hk6 S2 x1 hS2
  · refine f_bp (fun x7 => ?_)
    refine f_ite ?_ ?_
    · exact hk6 S2 x1 hS2
    · refine f_bwS (fun _ _ h => gI_tr hS2 (w_X0_readAct h) (by decide) (by decide)) (fun x8 S9 hS9 => ?_)
      refine f_ite ?_ ?_
      · refine f_lt (fun x10 => ?_)
        exact ih4 S9 x10 hS9
      · exact f_some hS9
def f_X0_readFrom (S : CS) : Option (Int32 × CS) :=
  L_X0_readFrom_2 (fun S13 x14 =>
  some (x14, S13)) FU S 0
set_option maxRecDepth 100000 in
set_option maxHeartbeats 4000000 in
theorem c_X0_readFrom {g : KG} {q : Nat → Nat} {E : va_W} {S : CS}  {r : Int32} {S' : CS} (h : f_X0_readFrom S = some (r, S')) : ∀ l, kM l yX0_readFrom cX0_readFrom 3 (some .int) rm_X0_readFrom g [.ref (q 30), .ref (q 1)] (cx g q E S) (cx g q E S') (some (.int r)) 0 0 := by
  refine k_open_i (own := "MarkChains$Acts") (by decide) rfl (Nat.le_of_ble_eq_true rfl) (fun X C hR => ?_)
  refine (?_ : jJ X g ((r, S') : Int32 × CS) (cx g q E S) 0 0 0 [(0, .ref (q 30)), (1, .ref (q 1))] [] (f_X0_readFrom S)) h
  unfold f_X0_readFrom
  refine r_iconst (pc := 0) C dX0_readFrom_0 (v := 0) (by decide) ?_
  refine r_istore_n (pc := 1) C dX0_readFrom_1 (lv' := [(0, .ref (q 30)), (1, .ref (q 1)), (2, .int 0)]) (by decide) [1, 2, 0] rfl ?_
  refine l_X0_readFrom_2 C hR _ (fun S13 x14 => ?_) FU S 0
  refine r_iload_n (pc := 32) C dX0_readFrom_32 0 rfl ?_
  exact r_retWI (wf := cx g q E) hR (pc := 33) dX0_readFrom_33
set_option maxRecDepth 100000 in
theorem w_X0_readFrom {S : CS}  {r : Int32} {S' : CS} (h : f_X0_readFrom S = some (r, S')) : gI [2, 3, 4, 5] [31, 32] S S' := by
  have hS : gI [2, 3, 4, 5] [31, 32] S S := gI_rf
  refine (?_ : jf (gI [2, 3, 4, 5] [31, 32] S) Prod.snd (f_X0_readFrom S)) _ h
  unfold f_X0_readFrom
  refine v_X0_readFrom_2 (fun S13 x14 hS13 => ?_) FU S 0 hS
  exact f_some hS13
abbrev rm_X0_begin : Room := { frames := 0, cells := 0, slots := 0, locals := 0 }
theorem kY_X0_begin : kY yX0_begin cX0_begin 1 none 0 := ⟨kw_1_8, kw_5_120, by decide, by decide, by decide +kernel⟩
def f_X0_begin (S : CS) : Option (CS) :=
  lt (ci S 17 0) fun S1 =>
  lt (ci S1 18 (-1)) fun S2 =>
  some S2
set_option maxRecDepth 100000 in
set_option maxHeartbeats 4000000 in
theorem c_X0_begin {g : KG} {q : Nat → Nat} {E : va_W} {S : CS}  {S' : CS} (h : f_X0_begin S = some S') : ∀ l, kM l yX0_begin cX0_begin 1 none rm_X0_begin g [.ref (q 30)] (cx g q E S) (cx g q E S') (none) 0 0 := by
  refine k_open_v (own := "MarkChains$Acts") (by decide) rfl (Nat.le_of_ble_eq_true rfl) (fun X C hR => ?_)
  refine (?_ : jJ X g (S' : CS) (cx g q E S) 0 0 0 [(0, .ref (q 30))] [] (f_X0_begin S)) h
  unfold f_X0_begin
  refine r_aload_n (pc := 0) C dX0_begin_0 0 rfl ?_
  refine r_iconst (pc := 1) C dX0_begin_1 (v := 0) (by decide) ?_
  refine xp_ac_done (pc := 2) C kw_1_225 dX0_begin_2 (fun S1 => ?_)
  refine r_aload_n (pc := 5) C dX0_begin_5 0 rfl ?_
  refine r_iconst (pc := 6) C dX0_begin_6 (v := (-1)) (by decide) ?_
  refine xp_ac_endedBy (pc := 7) C kw_1_227 dX0_begin_7 (fun S2 => ?_)
  exact r_retWV (wf := cx g q E) hR (pc := 10) dX0_begin_10
set_option maxRecDepth 100000 in
theorem w_X0_begin {S : CS}  {S' : CS} (h : f_X0_begin S = some S') : gI [17, 18] [] S S' := by
  have hS : gI [17, 18] [] S S := gI_rf
  refine (?_ : jf (gI [17, 18] [] S) id (f_X0_begin S)) _ h
  unfold f_X0_begin
  refine f_ltS (gI_ci hS (by decide)) (fun S1 hS1 => ?_)
  refine f_ltS (gI_ci hS1 (by decide)) (fun S2 hS2 => ?_)
  exact f_some hS2
abbrev rm_X0_numberOf : Room := { frames := 0, cells := 0, slots := 0, locals := 0 }
theorem kY_X0_numberOf : kY yX0_numberOf cX0_numberOf 4 (some .int) 2 := ⟨kw_1_8, kw_5_128, by decide, by decide, by decide +kernel⟩
def f_X0_numberOf (S : CS) (a1 : Int32) (a2 : Int32) : Option (Int32) :=
  lt ((a1 * 3) + a2) fun x1 =>
  (if x1 < 0 then
  some 0
 else
  (if 90 ≤ x1 then
  some 0
 else
  chk x1 90 (
  some (S.2.1 32 x1.toNatClampNeg))))
set_option maxRecDepth 100000 in
set_option maxHeartbeats 4000000 in
theorem c_X0_numberOf {g : KG} {q : Nat → Nat} {E : va_W} {S : CS} {a1 : Int32} {a2 : Int32} {r : Int32} (h : f_X0_numberOf S a1 a2 = some r) : ∀ l, kM l yX0_numberOf cX0_numberOf 4 (some .int) rm_X0_numberOf g [.ref (q 30), .int a1, .int a2] (cx g q E S) (cx g q E S) (some (.int r)) 0 0 := by
  refine k_open_i (own := "MarkChains$Acts") (by decide) rfl (Nat.le_of_ble_eq_true rfl) (fun X C hR => ?_)
  refine (?_ : jJ X g (r : Int32) (cx g q E S) 0 0 0 [(0, .ref (q 30)), (1, .int a1), (2, .int a2)] [] (f_X0_numberOf S a1 a2)) h
  unfold f_X0_numberOf
  refine r_iload_n (pc := 0) C dX0_numberOf_0 1 rfl ?_
  refine r_iconst (pc := 1) C dX0_numberOf_1 (v := 3) (by decide) ?_
  refine r_imul (pc := 2) C dX0_numberOf_2 ?_
  refine r_iload_n (pc := 3) C dX0_numberOf_3 2 rfl ?_
  refine r_iadd (pc := 4) C dX0_numberOf_4 ?_
  refine r_istoreV_n (pc := 5) C dX0_numberOf_5 (lv' := fun x1 => [(0, .ref (q 30)), (1, .int a1), (2, .int a2), (3, .int x1)]) (by decide) [1, 2, 3, 0] (fun _ => rfl) (fun x1 => ?_)
  refine r_iload_n (pc := 6) C dX0_numberOf_6 3 rfl ?_
  refine r_if_lt 28 (pc := 7) C dX0_numberOf_7 (by decide) ?_ ?_
  · refine r_iconst (pc := 28) C dX0_numberOf_28 (v := 0) (by decide) ?_
    exact r_retPI hR (pc := 29) dX0_numberOf_29
  · refine r_iload_n (pc := 10) C dX0_numberOf_10 3 rfl ?_
    refine r_aload_n (pc := 11) C dX0_numberOf_11 0 rfl ?_
    refine xg_ac_numbers (pc := 12) C kw_1_222 dX0_numberOf_12 ?_
    refine xn_ac_numbers (pc := 15) C dX0_numberOf_15 ?_
    refine r_icmp_ge 28 (pc := 16) C dX0_numberOf_16 (by decide) ?_ ?_
    · refine r_iconst (pc := 28) C dX0_numberOf_28 (v := 0) (by decide) ?_
      exact r_retPI hR (pc := 29) dX0_numberOf_29
    · refine r_aload_n (pc := 19) C dX0_numberOf_19 0 rfl ?_
      refine xg_ac_numbers (pc := 20) C kw_1_222 dX0_numberOf_20 ?_
      refine r_iload_n (pc := 23) C dX0_numberOf_23 3 rfl ?_
      refine xl_ac_numbers (pc := 24) C dX0_numberOf_24 ?_
      refine r_goto 29 (pc := 25) C dX0_numberOf_25 (by decide) ?_
      exact r_retPI hR (pc := 29) dX0_numberOf_29
abbrev rm_X0_letterOf : Room := { frames := 0, cells := 0, slots := 0, locals := 0 }
theorem kY_X0_letterOf : kY yX0_letterOf cX0_letterOf 2 (some .int) 1 := ⟨kw_1_8, kw_5_132, by decide, by decide, by decide +kernel⟩
def f_X0_letterOf (S : CS) (a1 : Int32) : Option (Int32) :=
  (if a1 < 0 then
  some 0
 else
  (if 30 ≤ a1 then
  some 0
 else
  chk a1 30 (
  some (S.2.1 31 a1.toNatClampNeg))))
set_option maxRecDepth 100000 in
set_option maxHeartbeats 4000000 in
theorem c_X0_letterOf {g : KG} {q : Nat → Nat} {E : va_W} {S : CS} {a1 : Int32} {r : Int32} (h : f_X0_letterOf S a1 = some r) : ∀ l, kM l yX0_letterOf cX0_letterOf 2 (some .int) rm_X0_letterOf g [.ref (q 30), .int a1] (cx g q E S) (cx g q E S) (some (.int r)) 0 0 := by
  refine k_open_i (own := "MarkChains$Acts") (by decide) rfl (Nat.le_of_ble_eq_true rfl) (fun X C hR => ?_)
  refine (?_ : jJ X g (r : Int32) (cx g q E S) 0 0 0 [(0, .ref (q 30)), (1, .int a1)] [] (f_X0_letterOf S a1)) h
  unfold f_X0_letterOf
  refine r_iload_n (pc := 0) C dX0_letterOf_0 1 rfl ?_
  refine r_if_lt 19 (pc := 1) C dX0_letterOf_1 (by decide) ?_ ?_
  · refine r_iconst (pc := 19) C dX0_letterOf_19 (v := 0) (by decide) ?_
    exact r_retPI hR (pc := 20) dX0_letterOf_20
  · refine r_iload_n (pc := 4) C dX0_letterOf_4 1 rfl ?_
    refine r_bipush (pc := 5) C dX0_letterOf_5 (v := 30) (by decide) ?_
    refine r_icmp_ge 19 (pc := 7) C dX0_letterOf_7 (by decide) ?_ ?_
    · refine r_iconst (pc := 19) C dX0_letterOf_19 (v := 0) (by decide) ?_
      exact r_retPI hR (pc := 20) dX0_letterOf_20
    · refine r_aload_n (pc := 10) C dX0_letterOf_10 0 rfl ?_
      refine xg_ac_letters (pc := 11) C kw_1_221 dX0_letterOf_11 ?_
      refine r_iload_n (pc := 14) C dX0_letterOf_14 1 rfl ?_
      refine xl_ac_letters (pc := 15) C dX0_letterOf_15 ?_
      refine r_goto 20 (pc := 16) C dX0_letterOf_16 (by decide) ?_
      exact r_retPI hR (pc := 20) dX0_letterOf_20
