abbrev rm_X10_addWord : Room := { frames := 0, cells := 0, slots := 0, locals := 0 }
theorem kY_X10_addWord : kY yX10_addWord cX10_addWord 3 none 1 := ⟨kw_1_2, kw_2_121, by decide, by decide, by decide +kernel⟩
def L_X10_addWord_3 (c1 : Int32) (k5 : CS → Option (CS)) : Nat → CS → Int32 → Option (CS) := lo2 fun rec3 S2 x1 =>
  (if x1 < 0 then
  k5 S2
 else
  (if 600 ≤ (S2.1 1) then
  k5 S2
 else
  chk (S2.1 1) 600 (lt (ca S2 2 (upd (S2.2.1 2) (S2.1 1).toNatClampNeg (((c1.toUInt32 >>> (x1.toUInt32 &&& Int32.toUInt32 31)).toInt32) &&& 255))) fun S7 =>
  lt (ci S7 1 ((S7.1 1) + 1)) fun S8 =>
  lt (x1 + (-8)) fun x9 =>
  rec3 S8 x9)))
set_option maxRecDepth 100000 in
set_option maxHeartbeats 4000000 in
theorem l_X10_addWord_3 {X : KX} {g : KG} {q : Nat → Nat} {E : va_W} {res : CS} (C : kC X g cX10_addWord "MarkChains$Tape" rm_X10_addWord 3) (hR : ∀ (pc : Nat) (lv : List (Nat × Value)), decode cX10_addWord pc = .ok (.return_, 1) → jW X g (cx g q E res) 0 0 pc lv []) (c1 : Int32) (k5 : CS → Option (CS)) (hk6 : ∀ (S10 : CS), jJ X g res (cx g q E S10) 0 0 49 [] [] (k5 S10)) : ∀ (n : Nat) (S2 : CS) (x1 : Int32), jJ X g res (cx g q E S2) 0 0 3 [(0, .ref (q 1)), (1, .int c1), (2, .int x1)] [] (L_X10_addWord_3 c1 k5 n S2 x1) := by
  refine r_lo2 (fun S2 x1 => cx g q E S2) (fun S2 x1 => [(0, .ref (q 1)), (1, .int c1), (2, .int x1)]) (fun rec3 ih4 S2 x1 => ?_)
  refine r_iload_n (pc := 3) C dX10_addWord_3 2 rfl ?_
  refine r_if_lt 49 (pc := 4) C dX10_addWord_4 (by decide) ?_ ?_
  · refine r_sub (lv' := []) [] rfl ?_
    exact hk6 S2
  · refine r_aload_n (pc := 7) C dX10_addWord_7 0 rfl ?_
    refine xg_tp_length (pc := 8) C kw_1_37 dX10_addWord_8 ?_
    refine r_sipush (pc := 11) C dX10_addWord_11 (v := 600) (by decide) ?_
    refine r_icmp_ge 49 (pc := 14) C dX10_addWord_14 (by decide) ?_ ?_
    · refine r_sub (lv' := []) [] rfl ?_
      exact hk6 S2
    · refine r_aload_n (pc := 17) C dX10_addWord_17 0 rfl ?_
      refine xg_tp_bytes (pc := 18) C kw_1_36 dX10_addWord_18 ?_
      refine r_aload_n (pc := 21) C dX10_addWord_21 0 rfl ?_
      refine xg_tp_length (pc := 22) C kw_1_37 dX10_addWord_22 ?_
      refine r_iload_n (pc := 25) C dX10_addWord_25 1 rfl ?_
      refine r_iload_n (pc := 26) C dX10_addWord_26 2 rfl ?_
      refine r_iushr (pc := 27) C dX10_addWord_27 ?_
      refine r_sipush (pc := 28) C dX10_addWord_28 (v := 255) (by decide) ?_
      refine r_iand (pc := 31) C dX10_addWord_31 ?_
      refine xs_tp_bytes (pc := 32) C dX10_addWord_32 (fun S7 => ?_)
      refine r_aload_n (pc := 33) C dX10_addWord_33 0 rfl ?_
      refine r_dup (pc := 34) C dX10_addWord_34 rfl ?_
      refine xg_tp_length (pc := 35) C kw_1_37 dX10_addWord_35 ?_
      refine r_iconst (pc := 38) C dX10_addWord_38 (v := 1) (by decide) ?_
      refine r_iadd (pc := 39) C dX10_addWord_39 ?_
      refine xp_tp_length (pc := 40) C kw_1_37 dX10_addWord_40 (fun S8 => ?_)
      refine r_iinc (pc := 43) C dX10_addWord_43 (v := (-8)) (lv' := fun x9 => [(0, .ref (q 1)), (1, .int c1), (2, .int x9)]) 2 rfl (by decide) (by decide) [1, 2, 0] (fun _ => rfl) (fun x9 => ?_)
      refine r_goto 3 (pc := 46) C dX10_addWord_46 (by decide) ?_
      exact ih4 S8 x9
set_option maxRecDepth 100000 in
theorem v_X10_addWord_3 {S0 : CS} {c1 : Int32} {k5 : CS → Option (CS)} (hk6 : ∀ (S10 : CS), (gI [1] [2] S0) S10 → jf (gI [1] [2] S0) id (k5 S10)) : ∀ (n : Nat) (S2 : CS) (x1 : Int32), (gI [1] [2] S0) S2 → jf (gI [1] [2] S0) id (L_X10_addWord_3 c1 k5 n S2 x1) := by
  refine f_lo2 (I := (gI [1] [2] S0)) (fun S2 x1 => S2) (fun rec3 ih4 S2 x1 hS2 => ?_)
  refine f_ite ?_ ?_
  · exact hk6 S2 hS2
  · refine f_ite ?_ ?_
    · exact hk6 S2 hS2
    · refine f_chk (f_ltS (gI_ca hS2 (by decide)) (fun S7 hS7 => ?_))
      refine f_ltS (gI_ci hS7 (by decide)) (fun S8 hS8 => ?_)
      refine f_lt (fun x9 => ?_)
      exact ih4 S8 x9 hS8
def f_X10_addWord (S : CS) (a1 : Int32) : Option (CS) :=
  L_X10_addWord_3 a1 (fun S11 =>
  some S11) FU S 24
set_option maxRecDepth 100000 in
set_option maxHeartbeats 4000000 in
theorem c_X10_addWord {g : KG} {q : Nat → Nat} {E : va_W} {S : CS} {a1 : Int32} {S' : CS} (h : f_X10_addWord S a1 = some S') : ∀ l, kM l yX10_addWord cX10_addWord 3 none rm_X10_addWord g [.ref (q 1), .int a1] (cx g q E S) (cx g q E S') (none) 0 0 := by
  refine k_open_v (own := "MarkChains$Tape") (by decide) rfl (Nat.le_of_ble_eq_true rfl) (fun X C hR => ?_)
  refine (?_ : jJ X g (S' : CS) (cx g q E S) 0 0 0 [(0, .ref (q 1)), (1, .int a1)] [] (f_X10_addWord S a1)) h
  unfold f_X10_addWord
  refine r_bipush (pc := 0) C dX10_addWord_0 (v := 24) (by decide) ?_
  refine r_istore_n (pc := 2) C dX10_addWord_2 (lv' := [(0, .ref (q 1)), (1, .int a1), (2, .int 24)]) (by decide) [1, 2, 0] rfl ?_
  refine l_X10_addWord_3 C hR a1 _ (fun S11 => ?_) FU S 24
  exact r_retWV (wf := cx g q E) hR (pc := 49) dX10_addWord_49
set_option maxRecDepth 100000 in
theorem w_X10_addWord {S : CS} {a1 : Int32} {S' : CS} (h : f_X10_addWord S a1 = some S') : gI [1] [2] S S' := by
  have hS : gI [1] [2] S S := gI_rf
  refine (?_ : jf (gI [1] [2] S) id (f_X10_addWord S a1)) _ h
  unfold f_X10_addWord
  refine v_X10_addWord_3 (fun S11 hS11 => ?_) FU S 24 hS
  exact f_some hS11
abbrev rm_X11_feed : Room := { frames := 1, cells := 0, slots := 0, locals := 22 }
theorem kY_X11_feed : kY yX11_feed cX11_feed 6 (some .int) 5 := ⟨kw_1_1, kw_2_117, by decide, by decide, by decide +kernel⟩
def f_X11_feed (S : CS) (a1 : Int32) (a2 : Int32) (a3 : Int32) (a4 : Int32) (a5 : Int32) : Option (Int32 × CS) :=
  (if ((S.1 1) + 20) ≤ 600 then
  bp (f_X10_addWord S a1) (fun S1 =>
  bp (f_X10_addWord S1 a2) (fun S2 =>
  bp (f_X10_addWord S2 a3) (fun S3 =>
  bp (f_X10_addWord S3 a4) (fun S4 =>
  bp (f_X10_addWord S4 a5) (fun S5 =>
  some (S5.1 1, S5))))))
 else
  some ((-1), S))
set_option maxRecDepth 100000 in
set_option maxHeartbeats 4000000 in
theorem c_X11_feed {g : KG} {q : Nat → Nat} {E : va_W} {S : CS} {a1 : Int32} {a2 : Int32} {a3 : Int32} {a4 : Int32} {a5 : Int32} {r : Int32} {S' : CS} (h : f_X11_feed S a1 a2 a3 a4 a5 = some (r, S')) : ∀ l, kM l yX11_feed cX11_feed 6 (some .int) rm_X11_feed g [.ref (q 0), .int a1, .int a2, .int a3, .int a4, .int a5] (cx g q E S) (cx g q E S') (some (.int r)) 0 0 := by
  refine k_open_i (own := "MarkChains") (by decide) rfl (Nat.le_of_ble_eq_true rfl) (fun X C hR => ?_)
  refine (?_ : jJ X g ((r, S') : Int32 × CS) (cx g q E S) 0 0 0 [(0, .ref (q 0)), (1, .int a1), (2, .int a2), (3, .int a3), (4, .int a4), (5, .int a5)] [] (f_X11_feed S a1 a2 a3 a4 a5)) h
  unfold f_X11_feed
  refine r_aload_n (pc := 0) C dX11_feed_0 0 rfl ?_
  refine xg_x_tape (pc := 1) C kw_2_74 dX11_feed_1 ?_
  refine xgN_tp_length (pc := 4) C knf_0 dX11_feed_4 ?_
  refine r_bipush (pc := 7) C dX11_feed_7 (v := 20) (by decide) ?_
  refine r_iadd (pc := 9) C dX11_feed_9 ?_
  refine r_sipush (pc := 10) C dX11_feed_10 (v := 600) (by decide) ?_
  refine r_icmp_le 18 (pc := 13) C dX11_feed_13 (by decide) ?_ ?_
  · refine r_aload_n (pc := 18) C dX11_feed_18 0 rfl ?_
    refine xg_x_tape (pc := 19) C kw_2_74 dX11_feed_19 ?_
    refine r_iload_n (pc := 22) C dX11_feed_22 1 rfl ?_
    refine r_cVwv (As := [.int a1]) (st := []) (wf := cx g q E) (pc := 23) C (fun _ h => c_X10_addWord h) kY_X10_addWord kw_2_119 kw_2_120 kw_2_118 rfl ⟨Nat.le_of_ble_eq_true rfl, Nat.le_of_ble_eq_true rfl⟩ rfl rfl ⟨Nat.zero_le _, Nat.zero_le _⟩ 1 rfl rfl rfl (Nat.le_of_ble_eq_true rfl) dX11_feed_23 (fun S1 => ?_)
    refine r_aload_n (pc := 26) C dX11_feed_26 0 rfl ?_
    refine xg_x_tape (pc := 27) C kw_2_74 dX11_feed_27 ?_
    refine r_iload_n (pc := 30) C dX11_feed_30 2 rfl ?_
    refine r_cVwv (As := [.int a2]) (st := []) (wf := cx g q E) (pc := 31) C (fun _ h => c_X10_addWord h) kY_X10_addWord kw_2_119 kw_2_120 kw_2_118 rfl ⟨Nat.le_of_ble_eq_true rfl, Nat.le_of_ble_eq_true rfl⟩ rfl rfl ⟨Nat.zero_le _, Nat.zero_le _⟩ 1 rfl rfl rfl (Nat.le_of_ble_eq_true rfl) dX11_feed_31 (fun S2 => ?_)
    refine r_aload_n (pc := 34) C dX11_feed_34 0 rfl ?_
    refine xg_x_tape (pc := 35) C kw_2_74 dX11_feed_35 ?_
    refine r_iload_n (pc := 38) C dX11_feed_38 3 rfl ?_
    refine r_cVwv (As := [.int a3]) (st := []) (wf := cx g q E) (pc := 39) C (fun _ h => c_X10_addWord h) kY_X10_addWord kw_2_119 kw_2_120 kw_2_118 rfl ⟨Nat.le_of_ble_eq_true rfl, Nat.le_of_ble_eq_true rfl⟩ rfl rfl ⟨Nat.zero_le _, Nat.zero_le _⟩ 1 rfl rfl rfl (Nat.le_of_ble_eq_true rfl) dX11_feed_39 (fun S3 => ?_)
    refine r_aload_n (pc := 42) C dX11_feed_42 0 rfl ?_
    refine xg_x_tape (pc := 43) C kw_2_74 dX11_feed_43 ?_
    refine r_iload (pc := 46) C dX11_feed_46 4 rfl ?_
    refine r_cVwv (As := [.int a4]) (st := []) (wf := cx g q E) (pc := 48) C (fun _ h => c_X10_addWord h) kY_X10_addWord kw_2_119 kw_2_120 kw_2_118 rfl ⟨Nat.le_of_ble_eq_true rfl, Nat.le_of_ble_eq_true rfl⟩ rfl rfl ⟨Nat.zero_le _, Nat.zero_le _⟩ 1 rfl rfl rfl (Nat.le_of_ble_eq_true rfl) dX11_feed_48 (fun S4 => ?_)
    refine r_aload_n (pc := 51) C dX11_feed_51 0 rfl ?_
    refine xg_x_tape (pc := 52) C kw_2_74 dX11_feed_52 ?_
    refine r_iload (pc := 55) C dX11_feed_55 5 rfl ?_
    refine r_cVwv (As := [.int a5]) (st := []) (wf := cx g q E) (pc := 57) C (fun _ h => c_X10_addWord h) kY_X10_addWord kw_2_119 kw_2_120 kw_2_118 rfl ⟨Nat.le_of_ble_eq_true rfl, Nat.le_of_ble_eq_true rfl⟩ rfl rfl ⟨Nat.zero_le _, Nat.zero_le _⟩ 1 rfl rfl rfl (Nat.le_of_ble_eq_true rfl) dX11_feed_57 (fun S5 => ?_)
    refine r_aload_n (pc := 60) C dX11_feed_60 0 rfl ?_
    refine xg_x_tape (pc := 61) C kw_2_74 dX11_feed_61 ?_
    refine xgN_tp_length (pc := 64) C knf_0 dX11_feed_64 ?_
    exact r_retWI (wf := cx g q E) hR (pc := 67) dX11_feed_67
  · refine r_iconst (pc := 16) C dX11_feed_16 (v := (-1)) (by decide) ?_
    exact r_retWI (wf := cx g q E) hR (pc := 17) dX11_feed_17
set_option maxRecDepth 100000 in
theorem w_X11_feed {S : CS} {a1 : Int32} {a2 : Int32} {a3 : Int32} {a4 : Int32} {a5 : Int32} {r : Int32} {S' : CS} (h : f_X11_feed S a1 a2 a3 a4 a5 = some (r, S')) : gI [1] [2] S S' := by
  have hS : gI [1] [2] S S := gI_rf
  refine (?_ : jf (gI [1] [2] S) Prod.snd (f_X11_feed S a1 a2 a3 a4 a5)) _ h
  unfold f_X11_feed
  refine f_ite ?_ ?_
  · refine f_bpS (fun _ h => gI_tr hS (w_X10_addWord h) (by decide) (by decide)) (fun S1 hS1 => ?_)
    refine f_bpS (fun _ h => gI_tr hS1 (w_X10_addWord h) (by decide) (by decide)) (fun S2 hS2 => ?_)
    refine f_bpS (fun _ h => gI_tr hS2 (w_X10_addWord h) (by decide) (by decide)) (fun S3 hS3 => ?_)
    refine f_bpS (fun _ h => gI_tr hS3 (w_X10_addWord h) (by decide) (by decide)) (fun S4 hS4 => ?_)
    refine f_bpS (fun _ h => gI_tr hS4 (w_X10_addWord h) (by decide) (by decide)) (fun S5 hS5 => ?_)
    exact f_some hS5
  · exact f_some hS
abbrev rm_X11_end : Room := { frames := 0, cells := 0, slots := 0, locals := 0 }
theorem kY_X11_end : kY yX11_end cX11_end 2 (some .int) 1 := ⟨kw_1_1, kw_2_125, by decide, by decide, by decide +kernel⟩
def f_X11_end (S : CS) (a1 : Int32) : Option (Int32 × CS) :=
  (if a1 < 0 then
  some ((-1), S)
 else
  (if a1 ≤ (S.1 1) then
  lt (ci S 1 a1) fun S1 =>
  some (a1, S1)
 else
  some ((-1), S)))
set_option maxRecDepth 100000 in
set_option maxHeartbeats 4000000 in
theorem c_X11_end {g : KG} {q : Nat → Nat} {E : va_W} {S : CS} {a1 : Int32} {r : Int32} {S' : CS} (h : f_X11_end S a1 = some (r, S')) : ∀ l, kM l yX11_end cX11_end 2 (some .int) rm_X11_end g [.ref (q 0), .int a1] (cx g q E S) (cx g q E S') (some (.int r)) 0 0 := by
  refine k_open_i (own := "MarkChains") (by decide) rfl (Nat.le_of_ble_eq_true rfl) (fun X C hR => ?_)
  refine (?_ : jJ X g ((r, S') : Int32 × CS) (cx g q E S) 0 0 0 [(0, .ref (q 0)), (1, .int a1)] [] (f_X11_end S a1)) h
  unfold f_X11_end
  refine r_iload_n (pc := 0) C dX11_end_0 1 rfl ?_
  refine r_if_lt 15 (pc := 1) C dX11_end_1 (by decide) ?_ ?_
  · refine r_iconst (pc := 15) C dX11_end_15 (v := (-1)) (by decide) ?_
    exact r_retWI (wf := cx g q E) hR (pc := 16) dX11_end_16
  · refine r_iload_n (pc := 4) C dX11_end_4 1 rfl ?_
    refine r_aload_n (pc := 5) C dX11_end_5 0 rfl ?_
    refine xg_x_tape (pc := 6) C kw_2_74 dX11_end_6 ?_
    refine xgN_tp_length (pc := 9) C knf_0 dX11_end_9 ?_
    refine r_icmp_le 17 (pc := 12) C dX11_end_12 (by decide) ?_ ?_
    · refine r_aload_n (pc := 17) C dX11_end_17 0 rfl ?_
      refine xg_x_tape (pc := 18) C kw_2_74 dX11_end_18 ?_
      refine r_iload_n (pc := 21) C dX11_end_21 1 rfl ?_
      refine xpN_tp_length (pc := 22) C knf_0 dX11_end_22 (fun S1 => ?_)
      refine r_iload_n (pc := 25) C dX11_end_25 1 rfl ?_
      exact r_retWI (wf := cx g q E) hR (pc := 26) dX11_end_26
    · refine r_iconst (pc := 15) C dX11_end_15 (v := (-1)) (by decide) ?_
      exact r_retWI (wf := cx g q E) hR (pc := 16) dX11_end_16
set_option maxRecDepth 100000 in
theorem w_X11_end {S : CS} {a1 : Int32} {r : Int32} {S' : CS} (h : f_X11_end S a1 = some (r, S')) : gI [1] [] S S' := by
  have hS : gI [1] [] S S := gI_rf
  refine (?_ : jf (gI [1] [] S) Prod.snd (f_X11_end S a1)) _ h
  unfold f_X11_end
  refine f_ite ?_ ?_
  · exact f_some hS
  · refine f_ite ?_ ?_
    · refine f_ltS (gI_ci hS (by decide)) (fun S1 hS1 => ?_)
      exact f_some hS1
    · exact f_some hS
abbrev rm_X1_packedSizes : Room := { frames := 0, cells := 0, slots := 0, locals := 0 }
theorem kY_X1_packedSizes : kY yX1_packedSizes cX1_packedSizes 1 (some .long) 0 := ⟨kw_1_3, kw_2_133, by decide, by decide, by decide +kernel⟩
def f_X1_packedSizes (S : CS) : Option (Int64) :=
  some (((((S.1 7) ||| ((S.1 8) <<< (8 &&& 31))) ||| ((S.1 9) <<< (16 &&& 31))).toInt64) ||| (((S.1 6).toInt64) <<< ((24 : Int32).toInt64 &&& 63)))
set_option maxRecDepth 100000 in
set_option maxHeartbeats 4000000 in
theorem c_X1_packedSizes {g : KG} {q : Nat → Nat} {E : va_W} {S : CS}  {r : Int64} (h : f_X1_packedSizes S = some r) : ∀ l, kM l yX1_packedSizes cX1_packedSizes 1 (some .long) rm_X1_packedSizes g [.ref (q 3)] (cx g q E S) (cx g q E S) (some (.long r)) 0 0 := by
  refine k_open_l (own := "MarkChains$Book") (by decide) rfl (Nat.le_of_ble_eq_true rfl) (fun X C hR => ?_)
  refine (?_ : jJ X g (r : Int64) (cx g q E S) 0 0 0 [(0, .ref (q 3))] [] (f_X1_packedSizes S)) h
  unfold f_X1_packedSizes
  refine r_aload_n (pc := 0) C dX1_packedSizes_0 0 rfl ?_
  refine xg_bk_events (pc := 1) C kw_1_92 dX1_packedSizes_1 ?_
  refine xgN_pe_size (pc := 4) C knf_10 dX1_packedSizes_4 ?_
  refine r_aload_n (pc := 7) C dX1_packedSizes_7 0 rfl ?_
  refine xg_bk_places (pc := 8) C kw_1_95 dX1_packedSizes_8 ?_
  refine xgN_pp_size (pc := 11) C knf_10 dX1_packedSizes_11 ?_
  refine r_bipush (pc := 14) C dX1_packedSizes_14 (v := 8) (by decide) ?_
  refine r_ishl (pc := 16) C dX1_packedSizes_16 ?_
  refine r_ior (pc := 17) C dX1_packedSizes_17 ?_
  refine r_aload_n (pc := 18) C dX1_packedSizes_18 0 rfl ?_
  refine xg_bk_athletes (pc := 19) C kw_1_98 dX1_packedSizes_19 ?_
  refine xgN_pa_size (pc := 22) C knf_10 dX1_packedSizes_22 ?_
  refine r_bipush (pc := 25) C dX1_packedSizes_25 (v := 16) (by decide) ?_
  refine r_ishl (pc := 27) C dX1_packedSizes_27 ?_
  refine r_ior (pc := 28) C dX1_packedSizes_28 ?_
  refine r_i2l (pc := 29) C dX1_packedSizes_29 ?_
  refine r_aload_n (pc := 30) C dX1_packedSizes_30 0 rfl ?_
  refine xg_bk_size (pc := 31) C kw_1_125 dX1_packedSizes_31 ?_
  refine r_i2l (pc := 34) C dX1_packedSizes_34 ?_
  refine r_bipush (pc := 35) C dX1_packedSizes_35 (v := 24) (by decide) ?_
  refine r_lshl (pc := 37) C dX1_packedSizes_37 ?_
  refine r_lor (pc := 38) C dX1_packedSizes_38 ?_
  exact r_retPL hR (pc := 39) dX1_packedSizes_39
abbrev rm_X10_beginReading : Room := { frames := 0, cells := 0, slots := 0, locals := 0 }
theorem kY_X10_beginReading : kY yX10_beginReading cX10_beginReading 1 none 0 := ⟨kw_1_2, kw_2_137, by decide, by decide, by decide +kernel⟩
def f_X10_beginReading (S : CS) : Option (CS) :=
  lt (ci S 2 0) fun S1 =>
  lt (ci S1 5 (-1)) fun S2 =>
  some S2
set_option maxRecDepth 100000 in
set_option maxHeartbeats 4000000 in
theorem c_X10_beginReading {g : KG} {q : Nat → Nat} {E : va_W} {S : CS}  {S' : CS} (h : f_X10_beginReading S = some S') : ∀ l, kM l yX10_beginReading cX10_beginReading 1 none rm_X10_beginReading g [.ref (q 1)] (cx g q E S) (cx g q E S') (none) 0 0 := by
  refine k_open_v (own := "MarkChains$Tape") (by decide) rfl (Nat.le_of_ble_eq_true rfl) (fun X C hR => ?_)
  refine (?_ : jJ X g (S' : CS) (cx g q E S) 0 0 0 [(0, .ref (q 1))] [] (f_X10_beginReading S)) h
  unfold f_X10_beginReading
  refine r_aload_n (pc := 0) C dX10_beginReading_0 0 rfl ?_
  refine r_iconst (pc := 1) C dX10_beginReading_1 (v := 0) (by decide) ?_
  refine xp_tp_place (pc := 2) C kw_1_39 dX10_beginReading_2 (fun S1 => ?_)
  refine r_aload_n (pc := 5) C dX10_beginReading_5 0 rfl ?_
  refine r_iconst (pc := 6) C dX10_beginReading_6 (v := (-1)) (by decide) ?_
  refine xp_tp_fault (pc := 7) C kw_1_45 dX10_beginReading_7 (fun S2 => ?_)
  exact r_retWV (wf := cx g q E) hR (pc := 10) dX10_beginReading_10
set_option maxRecDepth 100000 in
theorem w_X10_beginReading {S : CS}  {S' : CS} (h : f_X10_beginReading S = some S') : gI [2, 5] [] S S' := by
  have hS : gI [2, 5] [] S S := gI_rf
  refine (?_ : jf (gI [2, 5] [] S) id (f_X10_beginReading S)) _ h
  unfold f_X10_beginReading
  refine f_ltS (gI_ci hS (by decide)) (fun S1 hS1 => ?_)
  refine f_ltS (gI_ci hS1 (by decide)) (fun S2 hS2 => ?_)
  exact f_some hS2
abbrev rm_X10_isOver : Room := { frames := 0, cells := 0, slots := 0, locals := 0 }
theorem kY_X10_isOver : kY yX10_isOver cX10_isOver 1 (some .boolean) 0 := ⟨kw_1_2, kw_2_145, by decide, by decide, by decide +kernel⟩
def f_X10_isOver (S : CS) : Option (Bool) :=
  (if (S.1 2) < (S.1 1) then
  some false
 else
  some true)
set_option maxRecDepth 100000 in
set_option maxHeartbeats 4000000 in
theorem c_X10_isOver {g : KG} {q : Nat → Nat} {E : va_W} {S : CS}  {r : Bool} (h : f_X10_isOver S = some r) : ∀ l, kM l yX10_isOver cX10_isOver 1 (some .boolean) rm_X10_isOver g [.ref (q 1)] (cx g q E S) (cx g q E S) (some (.int (b2 r))) 0 0 := by
  refine k_open_z (own := "MarkChains$Tape") (by decide) rfl (Nat.le_of_ble_eq_true rfl) (fun X C hR => ?_)
  refine (?_ : jJ X g (r : Bool) (cx g q E S) 0 0 0 [(0, .ref (q 1))] [] (f_X10_isOver S)) h
  unfold f_X10_isOver
  refine r_aload_n (pc := 0) C dX10_isOver_0 0 rfl ?_
  refine xg_tp_place (pc := 1) C kw_1_39 dX10_isOver_1 ?_
  refine r_aload_n (pc := 4) C dX10_isOver_4 0 rfl ?_
  refine xg_tp_length (pc := 5) C kw_1_37 dX10_isOver_5 ?_
  refine r_icmp_lt 15 (pc := 8) C dX10_isOver_8 (by decide) ?_ ?_
  · refine r_iconst (pc := 15) C dX10_isOver_15 (v := 0) (by decide) ?_
    exact r_retPZ hR rfl (pc := 16) dX10_isOver_16
  · refine r_iconst (pc := 11) C dX10_isOver_11 (v := 1) (by decide) ?_
    refine r_goto 16 (pc := 12) C dX10_isOver_12 (by decide) ?_
    exact r_retPZ hR rfl (pc := 16) dX10_isOver_16
abbrev rm_X10_peek : Room := { frames := 0, cells := 0, slots := 0, locals := 0 }
theorem kY_X10_peek : kY yX10_peek cX10_peek 1 (some .int) 0 := ⟨kw_1_2, kw_2_154, by decide, by decide, by decide +kernel⟩
def f_X10_peek (S : CS) : Option (Int32) :=
  (if (S.1 1) ≤ (S.1 2) then
  some (-1)
 else
  chk (S.1 2) 600 (
  some (S.2.1 2 (S.1 2).toNatClampNeg)))
set_option maxRecDepth 100000 in
set_option maxHeartbeats 4000000 in
theorem c_X10_peek {g : KG} {q : Nat → Nat} {E : va_W} {S : CS}  {r : Int32} (h : f_X10_peek S = some r) : ∀ l, kM l yX10_peek cX10_peek 1 (some .int) rm_X10_peek g [.ref (q 1)] (cx g q E S) (cx g q E S) (some (.int r)) 0 0 := by
  refine k_open_i (own := "MarkChains$Tape") (by decide) rfl (Nat.le_of_ble_eq_true rfl) (fun X C hR => ?_)
  refine (?_ : jJ X g (r : Int32) (cx g q E S) 0 0 0 [(0, .ref (q 1))] [] (f_X10_peek S)) h
  unfold f_X10_peek
  refine r_aload_n (pc := 0) C dX10_peek_0 0 rfl ?_
  refine xg_tp_place (pc := 1) C kw_1_39 dX10_peek_1 ?_
  refine r_aload_n (pc := 4) C dX10_peek_4 0 rfl ?_
  refine xg_tp_length (pc := 5) C kw_1_37 dX10_peek_5 ?_
  refine r_icmp_ge 23 (pc := 8) C dX10_peek_8 (by decide) ?_ ?_
  · refine r_iconst (pc := 23) C dX10_peek_23 (v := (-1)) (by decide) ?_
    exact r_retPI hR (pc := 24) dX10_peek_24
  · refine r_aload_n (pc := 11) C dX10_peek_11 0 rfl ?_
    refine xg_tp_bytes (pc := 12) C kw_1_36 dX10_peek_12 ?_
    refine r_aload_n (pc := 15) C dX10_peek_15 0 rfl ?_
    refine xg_tp_place (pc := 16) C kw_1_39 dX10_peek_16 ?_
    refine xl_tp_bytes (pc := 19) C dX10_peek_19 ?_
    refine r_goto 24 (pc := 20) C dX10_peek_20 (by decide) ?_
    exact r_retPI hR (pc := 24) dX10_peek_24
abbrev rm_J0_isLatin1_aae02_s0 : Room := { frames := 0, cells := 0, slots := 0, locals := 0 }
theorem kY_J0_isLatin1_aae02 : kY yJ0_isLatin1_aae02 cJ0_isLatin1_aae02 1 (some .boolean) 0 := ⟨kw_1_14, kw_2_166, by decide, by decide, by decide +kernel⟩
def f_J0_isLatin1_aae02_s0 : Option (Bool) :=
  (if (1 : Int32) = 0 then
  some false
 else
  (if (0 : Int32) = 0 then
  some true
 else
  some false))
set_option maxRecDepth 100000 in
set_option maxHeartbeats 4000000 in
theorem c_J0_isLatin1_aae02_s0 {g : KG} {ws : va_W}  {r : Bool} (h : f_J0_isLatin1_aae02_s0 = some r) : ∀ l, kM l yJ0_isLatin1_aae02 cJ0_isLatin1_aae02 1 (some .boolean) rm_J0_isLatin1_aae02_s0 g [.ref (g.2.2.2 5)] (ws) (ws) (some (.int (b2 r))) 0 0 := by
  refine k_open_z (own := "java/lang/String") (by decide) rfl (Nat.le_of_ble_eq_true rfl) (fun X C hR => ?_)
  refine (?_ : jJ X g (r : Bool) (ws) 0 0 0 [(0, .ref (g.2.2.2 5))] [] (f_J0_isLatin1_aae02_s0)) h
  unfold f_J0_isLatin1_aae02_s0
  refine r_gs_cs (pc := 0) C kw_2_167 dJ0_isLatin1_aae02_0 ?_
  refine r_if_eq 17 (pc := 3) C dJ0_isLatin1_aae02_3 (by decide) ?_ ?_
  · refine r_iconst (pc := 17) C dJ0_isLatin1_aae02_17 (v := 0) (by decide) ?_
    exact r_retPZ hR rfl (pc := 18) dJ0_isLatin1_aae02_18
  · refine r_aload_n (pc := 6) C dJ0_isLatin1_aae02_6 0 rfl ?_
    refine r_sc_0 (pc := 7) C kw_8_95 dJ0_isLatin1_aae02_7 ?_
    refine r_if_ne 17 (pc := 10) C dJ0_isLatin1_aae02_10 (by decide) ?_ ?_
    · refine r_iconst (pc := 17) C dJ0_isLatin1_aae02_17 (v := 0) (by decide) ?_
      exact r_retPZ hR rfl (pc := 18) dJ0_isLatin1_aae02_18
    · refine r_iconst (pc := 13) C dJ0_isLatin1_aae02_13 (v := 1) (by decide) ?_
      refine r_goto 18 (pc := 14) C dJ0_isLatin1_aae02_14 (by decide) ?_
      exact r_retPZ hR rfl (pc := 18) dJ0_isLatin1_aae02_18
abbrev rm_J0_coder_7d493_s0 : Room := { frames := 0, cells := 0, slots := 0, locals := 0 }
theorem kY_J0_coder_7d493 : kY yJ0_coder_7d493 cJ0_coder_7d493 1 (some .byte) 0 := ⟨kw_1_14, kw_2_176, by decide, by decide, by decide +kernel⟩
def f_J0_coder_7d493_s0 : Option (Int32) :=
  (if (1 : Int32) = 0 then
  some 1
 else
  some 0)
set_option maxRecDepth 100000 in
set_option maxHeartbeats 4000000 in
theorem c_J0_coder_7d493_s0 {g : KG} {ws : va_W}  {r : Int32} (h : f_J0_coder_7d493_s0 = some r) : ∀ l, kM l yJ0_coder_7d493 cJ0_coder_7d493 1 (some .byte) rm_J0_coder_7d493_s0 g [.ref (g.2.2.2 5)] (ws) (ws) (some (.int r)) 0 0 := by
  have hr0 : r = 0 := Option.some.inj (h.symm.trans (by decide : f_J0_coder_7d493_s0 = some 0))
  have hr1 : narrow .byte (.int r) = .int r := by rw [hr0]; decide
  refine k_open_b (own := "java/lang/String") hr1 (by decide) rfl (Nat.le_of_ble_eq_true rfl) (fun X C hR => ?_)
  refine (?_ : jJ X g (r : Int32) (ws) 0 0 0 [(0, .ref (g.2.2.2 5))] [] (f_J0_coder_7d493_s0)) h
  unfold f_J0_coder_7d493_s0
  refine r_gs_cs (pc := 0) C kw_2_167 dJ0_coder_7d493_0 ?_
  refine r_if_eq 13 (pc := 3) C dJ0_coder_7d493_3 (by decide) ?_ ?_
  · refine r_iconst (pc := 13) C dJ0_coder_7d493_13 (v := 1) (by decide) ?_
    exact r_retPI hR (pc := 14) dJ0_coder_7d493_14
  · refine r_aload_n (pc := 6) C dJ0_coder_7d493_6 0 rfl ?_
    refine r_sc_0 (pc := 7) C kw_8_95 dJ0_coder_7d493_7 ?_
    refine r_goto 14 (pc := 10) C dJ0_coder_7d493_10 (by decide) ?_
    exact r_retPI hR (pc := 14) dJ0_coder_7d493_14
abbrev rm_J0_length_8abf5_s0 : Room := { frames := 1, cells := 0, slots := 0, locals := 20 }
theorem kY_J0_length_8abf5 : kY yJ0_length_8abf5 cJ0_length_8abf5 1 (some .int) 0 := ⟨kw_1_14, kw_2_172, by decide, by decide, by decide +kernel⟩
def f_J0_length_8abf5_s0 : Option (Int32) :=
  bp f_J0_coder_7d493_s0 (fun x1 =>
  some (4 >>> (x1 &&& 31)))
set_option maxRecDepth 100000 in
set_option maxHeartbeats 4000000 in
theorem c_J0_length_8abf5_s0 {g : KG} {ws : va_W}  {r : Int32} (h : f_J0_length_8abf5_s0 = some r) : ∀ l, kM l yJ0_length_8abf5 cJ0_length_8abf5 1 (some .int) rm_J0_length_8abf5_s0 g [.ref (g.2.2.2 5)] (ws) (ws) (some (.int r)) 0 0 := by
  refine k_open_i (own := "java/lang/String") (by decide) rfl (Nat.le_of_ble_eq_true rfl) (fun X C hR => ?_)
  refine (?_ : jJ X g (r : Int32) (ws) 0 0 0 [(0, .ref (g.2.2.2 5))] [] (f_J0_length_8abf5_s0)) h
  unfold f_J0_length_8abf5_s0
  refine r_aload_n (pc := 0) C dJ0_length_8abf5_0 0 rfl ?_
  refine r_sv_0 (pc := 1) C kw_8_96 dJ0_length_8abf5_1 ?_
  refine r_sbn_0 (pc := 4) C dJ0_length_8abf5_4 ?_
  refine r_aload_n (pc := 5) C dJ0_length_8abf5_5 0 rfl ?_
  refine r_cT0pi (As := []) (st := [.int 4]) (pc := 6) C (fun _ h => c_J0_coder_7d493_s0 h) kY_J0_coder_7d493 kw_2_174 kw_2_175 rfl kw_2_173 rfl ⟨Nat.le_of_ble_eq_true rfl, Nat.le_of_ble_eq_true rfl⟩ rfl rfl ⟨Nat.zero_le _, Nat.zero_le _⟩ rfl (Nat.le_of_ble_eq_true rfl) dJ0_length_8abf5_6 (fun x1 => ?_)
  refine r_ishr (pc := 9) C dJ0_length_8abf5_9 ?_
  exact r_retPI hR (pc := 10) dJ0_length_8abf5_10
abbrev rm_J1_canEncode_9a6ad : Room := { frames := 0, cells := 0, slots := 0, locals := 0 }
theorem kY_J1_canEncode_9a6ad : kY yJ1_canEncode_9a6ad cJ1_canEncode_9a6ad 1 (some .boolean) 1 := ⟨kw_1_15, kw_2_182, by decide, by decide, by decide +kernel⟩
def f_J1_canEncode_9a6ad (a0 : Int32) : Option (Bool) :=
  (if a0 < 0 then
  some false
 else
  (if 255 < a0 then
  some false
 else
  some true))
set_option maxRecDepth 100000 in
set_option maxHeartbeats 4000000 in
theorem c_J1_canEncode_9a6ad {g : KG} {ws : va_W} {a0 : Int32} {r : Bool} (h : f_J1_canEncode_9a6ad a0 = some r) : ∀ l, kM l yJ1_canEncode_9a6ad cJ1_canEncode_9a6ad 1 (some .boolean) rm_J1_canEncode_9a6ad g [.int a0] (ws) (ws) (some (.int (b2 r))) 0 0 := by
  refine k_open_z (own := "java/lang/StringLatin1") (by decide) rfl (Nat.le_of_ble_eq_true rfl) (fun X C hR => ?_)
  refine (?_ : jJ X g (r : Bool) (ws) 0 0 0 [(0, .int a0)] [] (f_J1_canEncode_9a6ad a0)) h
  unfold f_J1_canEncode_9a6ad
  refine r_iload_n (pc := 0) C dJ1_canEncode_9a6ad_0 0 rfl ?_
  refine r_if_lt 15 (pc := 1) C dJ1_canEncode_9a6ad_1 (by decide) ?_ ?_
  · refine r_iconst (pc := 15) C dJ1_canEncode_9a6ad_15 (v := 0) (by decide) ?_
    exact r_retPZ hR rfl (pc := 16) dJ1_canEncode_9a6ad_16
  · refine r_iload_n (pc := 4) C dJ1_canEncode_9a6ad_4 0 rfl ?_
    refine r_sipush (pc := 5) C dJ1_canEncode_9a6ad_5 (v := 255) (by decide) ?_
    refine r_icmp_gt 15 (pc := 8) C dJ1_canEncode_9a6ad_8 (by decide) ?_ ?_
    · refine r_iconst (pc := 15) C dJ1_canEncode_9a6ad_15 (v := 0) (by decide) ?_
      exact r_retPZ hR rfl (pc := 16) dJ1_canEncode_9a6ad_16
    · refine r_iconst (pc := 11) C dJ1_canEncode_9a6ad_11 (v := 1) (by decide) ?_
      refine r_goto 16 (pc := 12) C dJ1_canEncode_9a6ad_12 (by decide) ?_
      exact r_retPZ hR rfl (pc := 16) dJ1_canEncode_9a6ad_16
abbrev rm_J1_indexOfChar_4cfef_sb0 : Room := { frames := 0, cells := 0, slots := 0, locals := 0 }
theorem kY_J1_indexOfChar_4cfef : kY yJ1_indexOfChar_4cfef cJ1_indexOfChar_4cfef 6 (some .int) 4 := ⟨kw_1_15, kw_2_189, by decide, by decide, by decide +kernel⟩
def L_J1_indexOfChar_4cfef_sb0_7 (c3 : Int32) (c4 : Int32) (k5 : Option (Int32)) : Nat → Int32 → Option (Int32) := lo1 fun rec3 x2 =>
  (if c3 ≤ x2 then
  k5
 else
  chk x2 4 (
  (if (sB_0.getD x2.toNatClampNeg 0) = c4 then
  some x2
 else
  lt (x2 + 1) fun x7 =>
  rec3 x7)))
set_option maxRecDepth 100000 in
set_option maxHeartbeats 4000000 in
theorem l_J1_indexOfChar_4cfef_sb0_7 {X : KX} {g : KG} {res : Int32} {ws : va_W} (C : kC X g cJ1_indexOfChar_4cfef "java/lang/StringLatin1" rm_J1_indexOfChar_4cfef_sb0 6) (hR : ∀ (pc : Nat) (lv : List (Nat × Value)), decode cJ1_indexOfChar_4cfef pc = .ok (.ireturn, 1) → jW X g (ws) 0 0 pc lv [.int res]) (c3 : Int32) (c4 : Int32) (k5 : Option (Int32)) (hk6 : jJ X g res (ws) 0 0 31 [] [] k5) : ∀ (n : Nat) (x2 : Int32), jJ X g res (ws) 0 0 7 [(0, .ref (g.2.2.2 8)), (3, .int c3), (4, .int c4), (5, .int x2)] [] (L_J1_indexOfChar_4cfef_sb0_7 c3 c4 k5 n x2) := by
  refine r_lo1 (fun x2 => ws) (fun x2 => [(0, .ref (g.2.2.2 8)), (3, .int c3), (4, .int c4), (5, .int x2)]) (fun rec3 ih4 x2 => ?_)
  refine r_iload (pc := 7) C dJ1_indexOfChar_4cfef_7 3 rfl ?_
  refine r_iload_n (pc := 9) C dJ1_indexOfChar_4cfef_9 1 rfl ?_
  refine r_icmp_ge 31 (pc := 10) C dJ1_indexOfChar_4cfef_10 (by decide) ?_ ?_
  · refine r_sub (lv' := []) [] rfl ?_
    exact hk6
  · refine r_aload_n (pc := 13) C dJ1_indexOfChar_4cfef_13 0 rfl ?_
    refine r_iload (pc := 14) C dJ1_indexOfChar_4cfef_14 3 rfl ?_
    refine r_sbl_0 (pc := 16) C dJ1_indexOfChar_4cfef_16 ?_
    refine r_iload (pc := 17) C dJ1_indexOfChar_4cfef_17 2 rfl ?_
    refine r_icmp_ne 25 (pc := 19) C dJ1_indexOfChar_4cfef_19 (by decide) ?_ ?_
    · refine r_iinc (pc := 25) C dJ1_indexOfChar_4cfef_25 (v := 1) (lv' := fun x7 => [(0, .ref (g.2.2.2 8)), (3, .int c3), (4, .int c4), (5, .int x7)]) 3 rfl (by decide) (by decide) [1, 2, 3, 0] (fun _ => rfl) (fun x7 => ?_)
      refine r_goto 7 (pc := 28) C dJ1_indexOfChar_4cfef_28 (by decide) ?_
      exact ih4 x7
    · refine r_iload (pc := 22) C dJ1_indexOfChar_4cfef_22 3 rfl ?_
      exact r_retPI hR (pc := 24) dJ1_indexOfChar_4cfef_24
def f_J1_indexOfChar_4cfef_sb0 (a1 : Int32) (a2 : Int32) (a3 : Int32) : Option (Int32) :=
  lt a1.toInt8.toInt32 fun x1 =>
  L_J1_indexOfChar_4cfef_sb0_7 a3 x1 (some (-1)) FU a2
set_option maxRecDepth 100000 in
set_option maxHeartbeats 4000000 in
theorem c_J1_indexOfChar_4cfef_sb0 {g : KG} {ws : va_W} {a1 : Int32} {a2 : Int32} {a3 : Int32} {r : Int32} (h : f_J1_indexOfChar_4cfef_sb0 a1 a2 a3 = some r) : ∀ l, kM l yJ1_indexOfChar_4cfef cJ1_indexOfChar_4cfef 6 (some .int) rm_J1_indexOfChar_4cfef_sb0 g [.ref (g.2.2.2 8), .int a1, .int a2, .int a3] (ws) (ws) (some (.int r)) 0 0 := by
  refine k_open_i (own := "java/lang/StringLatin1") (by decide) rfl (Nat.le_of_ble_eq_true rfl) (fun X C hR => ?_)
  refine (?_ : jJ X g (r : Int32) (ws) 0 0 0 [(0, .ref (g.2.2.2 8)), (1, .int a1), (2, .int a2), (3, .int a3)] [] (f_J1_indexOfChar_4cfef_sb0 a1 a2 a3)) h
  unfold f_J1_indexOfChar_4cfef_sb0
  refine r_iload_n (pc := 0) C dJ1_indexOfChar_4cfef_0 1 rfl ?_
  refine r_i2b (pc := 1) C dJ1_indexOfChar_4cfef_1 ?_
  refine r_istoreV (pc := 2) C dJ1_indexOfChar_4cfef_2 (lv' := fun x1 => [(0, .ref (g.2.2.2 8)), (1, .int a1), (2, .int a2), (3, .int a3), (4, .int x1)]) (by decide) [1, 2, 3, 4, 0] (fun _ => rfl) (fun x1 => ?_)
  refine r_iload_n (pc := 4) C dJ1_indexOfChar_4cfef_4 2 rfl ?_
  refine r_istore (pc := 5) C dJ1_indexOfChar_4cfef_5 (lv' := [(0, .ref (g.2.2.2 8)), (1, .int a1), (2, .int a2), (3, .int a3), (4, .int x1), (5, .int a2)]) (by decide) [1, 2, 3, 4, 5, 0] rfl ?_
  refine r_sub (lv' := [(0, .ref (g.2.2.2 8)), (3, .int a3), (4, .int x1), (5, .int a2)]) [0, 3, 4, 5] rfl ?_
  refine l_J1_indexOfChar_4cfef_sb0_7 C hR a3 x1 _ (?_) FU a2
  refine r_iconst (pc := 31) C dJ1_indexOfChar_4cfef_31 (v := (-1)) (by decide) ?_
  exact r_retPI hR (pc := 32) dJ1_indexOfChar_4cfef_32
abbrev rm_J1_indexOf_4cfef_sb0 : Room := { frames := 1, cells := 0, slots := 0, locals := 25 }
theorem kY_J1_indexOf_4cfef : kY yJ1_indexOf_4cfef cJ1_indexOf_4cfef 4 (some .int) 4 := ⟨kw_1_15, kw_2_179, by decide, by decide, by decide +kernel⟩
def f_J1_indexOf_4cfef_sb0 (a1 : Int32) (a2 : Int32) (a3 : Int32) : Option (Int32) :=
  bp (f_J1_canEncode_9a6ad a1) (fun x1 =>
  (if x1 = true then
  lt (if a2 < 0 then 0 else a2) fun x2 =>
  lt (if 4 < a3 then 4 else a3) fun x3 =>
  (if x2 < x3 then
  bp (f_J1_indexOfChar_4cfef_sb0 a1 x2 x3) (fun x4 =>
  some x4)
 else
  some (-1))
 else
  some (-1)))
set_option maxRecDepth 100000 in
set_option maxHeartbeats 4000000 in
theorem c_J1_indexOf_4cfef_sb0 {g : KG} {ws : va_W} {a1 : Int32} {a2 : Int32} {a3 : Int32} {r : Int32} (h : f_J1_indexOf_4cfef_sb0 a1 a2 a3 = some r) : ∀ l, kM l yJ1_indexOf_4cfef cJ1_indexOf_4cfef 4 (some .int) rm_J1_indexOf_4cfef_sb0 g [.ref (g.2.2.2 8), .int a1, .int a2, .int a3] (ws) (ws) (some (.int r)) 0 0 := by
  refine k_open_i (own := "java/lang/StringLatin1") (by decide) rfl (Nat.le_of_ble_eq_true rfl) (fun X C hR => ?_)
  refine (?_ : jJ X g (r : Int32) (ws) 0 0 0 [(0, .ref (g.2.2.2 8)), (1, .int a1), (2, .int a2), (3, .int a3)] [] (f_J1_indexOf_4cfef_sb0 a1 a2 a3)) h
  unfold f_J1_indexOf_4cfef_sb0
  refine r_iload_n (pc := 0) C dJ1_indexOf_4cfef_0 1 rfl ?_
  refine r_cSpz (As := [.int a1]) (st := []) (pc := 1) C (fun _ h => c_J1_canEncode_9a6ad h) kY_J1_canEncode_9a6ad kw_2_181 kw_2_180 rfl ⟨Nat.le_of_ble_eq_true rfl, Nat.le_of_ble_eq_true rfl⟩ rfl rfl ⟨Nat.zero_le _, Nat.zero_le _⟩ rfl (Nat.le_of_ble_eq_true rfl) dJ1_indexOf_4cfef_1 (fun x1 => ?_)
  refine r_ifb_ne 9 (pc := 4) C dJ1_indexOf_4cfef_4 (by decide) ?_ ?_
  · refine r_iload_n (pc := 9) C dJ1_indexOf_4cfef_9 2 rfl ?_
    refine r_iconst (pc := 10) C dJ1_indexOf_4cfef_10 (v := 0) (by decide) ?_
    refine r_mmax (st := []) (pc := 11) C kw_2_183 (Nat.le_of_ble_eq_true rfl) (Nat.le_of_ble_eq_true rfl) ⟨Nat.zero_le _, Nat.zero_le _⟩ dJ1_indexOf_4cfef_11 ?_
    refine r_istoreV_n (pc := 14) C dJ1_indexOf_4cfef_14 (lv' := fun x2 => [(0, .ref (g.2.2.2 8)), (1, .int a1), (2, .int x2), (3, .int a3)]) (by decide) [1, 2, 0, 3] (fun _ => rfl) (fun x2 => ?_)
    refine r_iload_n (pc := 15) C dJ1_indexOf_4cfef_15 3 rfl ?_
    refine r_aload_n (pc := 16) C dJ1_indexOf_4cfef_16 0 rfl ?_
    refine r_sbn_0 (pc := 17) C dJ1_indexOf_4cfef_17 ?_
    refine r_mmin (st := []) (pc := 18) C kw_2_184 (Nat.le_of_ble_eq_true rfl) (Nat.le_of_ble_eq_true rfl) ⟨Nat.zero_le _, Nat.zero_le _⟩ dJ1_indexOf_4cfef_18 ?_
    refine r_istoreV_n (pc := 21) C dJ1_indexOf_4cfef_21 (lv' := fun x3 => [(0, .ref (g.2.2.2 8)), (1, .int a1), (2, .int x2), (3, .int x3)]) (by decide) [1, 2, 3, 0] (fun _ => rfl) (fun x3 => ?_)
    refine r_iload_n (pc := 22) C dJ1_indexOf_4cfef_22 2 rfl ?_
    refine r_iload_n (pc := 23) C dJ1_indexOf_4cfef_23 3 rfl ?_
    refine r_icmp_lt 29 (pc := 24) C dJ1_indexOf_4cfef_24 (by decide) ?_ ?_
    · refine r_aload_n (pc := 29) C dJ1_indexOf_4cfef_29 0 rfl ?_
      refine r_iload_n (pc := 30) C dJ1_indexOf_4cfef_30 1 rfl ?_
      refine r_iload_n (pc := 31) C dJ1_indexOf_4cfef_31 2 rfl ?_
      refine r_iload_n (pc := 32) C dJ1_indexOf_4cfef_32 3 rfl ?_
      refine r_cSpi (As := [.ref (g.2.2.2 8), .int a1, .int x2, .int x3]) (st := []) (pc := 33) C (fun _ h => c_J1_indexOfChar_4cfef_sb0 h) kY_J1_indexOfChar_4cfef kw_2_188 kw_2_187 rfl ⟨Nat.le_of_ble_eq_true rfl, Nat.le_of_ble_eq_true rfl⟩ rfl rfl ⟨Nat.zero_le _, Nat.zero_le _⟩ rfl (Nat.le_of_ble_eq_true rfl) dJ1_indexOf_4cfef_33 (fun x4 => ?_)
      exact r_retPI hR (pc := 36) dJ1_indexOf_4cfef_36
    · refine r_iconst (pc := 27) C dJ1_indexOf_4cfef_27 (v := (-1)) (by decide) ?_
      exact r_retPI hR (pc := 28) dJ1_indexOf_4cfef_28
  · refine r_iconst (pc := 7) C dJ1_indexOf_4cfef_7 (v := (-1)) (by decide) ?_
    exact r_retPI hR (pc := 8) dJ1_indexOf_4cfef_8
abbrev rm_J0_indexOf_7cf53_s0 : Room := { frames := 2, cells := 0, slots := 0, locals := 48 }
theorem kY_J0_indexOf_7cf53 : kY yJ0_indexOf_7cf53 cJ0_indexOf_7cf53 3 (some .int) 2 := ⟨kw_1_14, kw_2_162, by decide, by decide, by decide +kernel⟩
def f_J0_indexOf_7cf53_s0 (a1 : Int32) (a2 : Int32) : Option (Int32) :=
  bp f_J0_isLatin1_aae02_s0 (fun x1 =>
  (if x1 = true then
  bp f_J0_length_8abf5_s0 (fun x2 =>
  bp (f_J1_indexOf_4cfef_sb0 a1 a2 x2) (fun x3 =>
  some x3))
 else
  none))
set_option maxRecDepth 100000 in
set_option maxHeartbeats 4000000 in
theorem c_J0_indexOf_7cf53_s0 {g : KG} {ws : va_W} {a1 : Int32} {a2 : Int32} {r : Int32} (h : f_J0_indexOf_7cf53_s0 a1 a2 = some r) : ∀ l, kM l yJ0_indexOf_7cf53 cJ0_indexOf_7cf53 3 (some .int) rm_J0_indexOf_7cf53_s0 g [.ref (g.2.2.2 5), .int a1, .int a2] (ws) (ws) (some (.int r)) 0 0 := by
  refine k_open_i (own := "java/lang/String") (by decide) rfl (Nat.le_of_ble_eq_true rfl) (fun X C hR => ?_)
  refine (?_ : jJ X g (r : Int32) (ws) 0 0 0 [(0, .ref (g.2.2.2 5)), (1, .int a1), (2, .int a2)] [] (f_J0_indexOf_7cf53_s0 a1 a2)) h
  unfold f_J0_indexOf_7cf53_s0
  refine r_aload_n (pc := 0) C dJ0_indexOf_7cf53_0 0 rfl ?_
  refine r_cT0pz (As := []) (st := []) (pc := 1) C (fun _ h => c_J0_isLatin1_aae02_s0 h) kY_J0_isLatin1_aae02 kw_2_164 kw_2_165 rfl kw_2_163 rfl ⟨Nat.le_of_ble_eq_true rfl, Nat.le_of_ble_eq_true rfl⟩ rfl rfl ⟨Nat.zero_le _, Nat.zero_le _⟩ rfl (Nat.le_of_ble_eq_true rfl) dJ0_indexOf_7cf53_1 (fun x1 => ?_)
  refine r_ifb_eq 23 (pc := 4) C dJ0_indexOf_7cf53_4 (by decide) ?_ ?_
  · exact fun hF => by cases hF
  · refine r_aload_n (pc := 7) C dJ0_indexOf_7cf53_7 0 rfl ?_
    refine r_sv_0 (pc := 8) C kw_8_96 dJ0_indexOf_7cf53_8 ?_
    refine r_iload_n (pc := 11) C dJ0_indexOf_7cf53_11 1 rfl ?_
    refine r_iload_n (pc := 12) C dJ0_indexOf_7cf53_12 2 rfl ?_
    refine r_aload_n (pc := 13) C dJ0_indexOf_7cf53_13 0 rfl ?_
    refine r_cT0pi (As := []) (st := [.int a2, .int a1, .ref (g.2.2.2 8)]) (pc := 14) C (fun _ h => c_J0_length_8abf5_s0 h) kY_J0_length_8abf5 kw_2_170 kw_2_171 rfl kw_2_169 rfl ⟨Nat.le_of_ble_eq_true rfl, Nat.le_of_ble_eq_true rfl⟩ rfl rfl ⟨Nat.zero_le _, Nat.zero_le _⟩ rfl (Nat.le_of_ble_eq_true rfl) dJ0_indexOf_7cf53_14 (fun x2 => ?_)
    refine r_cSpi (As := [.ref (g.2.2.2 8), .int a1, .int a2, .int x2]) (st := []) (pc := 17) C (fun _ h => c_J1_indexOf_4cfef_sb0 h) kY_J1_indexOf_4cfef kw_2_178 kw_2_177 rfl ⟨Nat.le_of_ble_eq_true rfl, Nat.le_of_ble_eq_true rfl⟩ rfl rfl ⟨Nat.zero_le _, Nat.zero_le _⟩ rfl (Nat.le_of_ble_eq_true rfl) dJ0_indexOf_7cf53_17 (fun x3 => ?_)
    refine r_goto 36 (pc := 20) C dJ0_indexOf_7cf53_20 (by decide) ?_
    exact r_retPI hR (pc := 36) dJ0_indexOf_7cf53_36
abbrev rm_J0_indexOf_0f7a4_s0 : Room := { frames := 3, cells := 0, slots := 0, locals := 70 }
theorem kY_J0_indexOf_0f7a4 : kY yJ0_indexOf_0f7a4 cJ0_indexOf_0f7a4 2 (some .int) 1 := ⟨kw_1_14, kw_2_158, by decide, by decide, by decide +kernel⟩
def f_J0_indexOf_0f7a4_s0 (a1 : Int32) : Option (Int32) :=
  bp (f_J0_indexOf_7cf53_s0 a1 0) (fun x1 =>
  some x1)
set_option maxRecDepth 100000 in
set_option maxHeartbeats 4000000 in
theorem c_J0_indexOf_0f7a4_s0 {g : KG} {ws : va_W} {a1 : Int32} {r : Int32} (h : f_J0_indexOf_0f7a4_s0 a1 = some r) : ∀ l, kM l yJ0_indexOf_0f7a4 cJ0_indexOf_0f7a4 2 (some .int) rm_J0_indexOf_0f7a4_s0 g [.ref (g.2.2.2 5), .int a1] (ws) (ws) (some (.int r)) 0 0 := by
  refine k_open_i (own := "java/lang/String") (by decide) rfl (Nat.le_of_ble_eq_true rfl) (fun X C hR => ?_)
  refine (?_ : jJ X g (r : Int32) (ws) 0 0 0 [(0, .ref (g.2.2.2 5)), (1, .int a1)] [] (f_J0_indexOf_0f7a4_s0 a1)) h
  unfold f_J0_indexOf_0f7a4_s0
  refine r_aload_n (pc := 0) C dJ0_indexOf_0f7a4_0 0 rfl ?_
  refine r_iload_n (pc := 1) C dJ0_indexOf_0f7a4_1 1 rfl ?_
  refine r_iconst (pc := 2) C dJ0_indexOf_0f7a4_2 (v := 0) (by decide) ?_
  refine r_cT0pi (As := [.int a1, .int 0]) (st := []) (pc := 3) C (fun _ h => c_J0_indexOf_7cf53_s0 h) kY_J0_indexOf_7cf53 kw_2_160 kw_2_161 rfl kw_2_159 rfl ⟨Nat.le_of_ble_eq_true rfl, Nat.le_of_ble_eq_true rfl⟩ rfl rfl ⟨Nat.zero_le _, Nat.zero_le _⟩ rfl (Nat.le_of_ble_eq_true rfl) dJ0_indexOf_0f7a4_3 (fun x1 => ?_)
  exact r_retPI hR (pc := 6) dJ0_indexOf_0f7a4_6
abbrev rm_X10_failHere : Room := { frames := 0, cells := 0, slots := 0, locals := 0 }
theorem kY_X10_failHere : kY yX10_failHere cX10_failHere 1 (some .boolean) 0 := ⟨kw_1_2, kw_3_14, by decide, by decide, by decide +kernel⟩
def f_X10_failHere (S : CS) : Option (Bool × CS) :=
  lt (ci S 5 (S.1 2)) fun S1 =>
  some (false, S1)
set_option maxRecDepth 100000 in
set_option maxHeartbeats 4000000 in
theorem c_X10_failHere {g : KG} {q : Nat → Nat} {E : va_W} {S : CS}  {r : Bool} {S' : CS} (h : f_X10_failHere S = some (r, S')) : ∀ l, kM l yX10_failHere cX10_failHere 1 (some .boolean) rm_X10_failHere g [.ref (q 1)] (cx g q E S) (cx g q E S') (some (.int (b2 r))) 0 0 := by
  refine k_open_z (own := "MarkChains$Tape") (by decide) rfl (Nat.le_of_ble_eq_true rfl) (fun X C hR => ?_)
  refine (?_ : jJ X g ((r, S') : Bool × CS) (cx g q E S) 0 0 0 [(0, .ref (q 1))] [] (f_X10_failHere S)) h
  unfold f_X10_failHere
  refine r_aload_n (pc := 0) C dX10_failHere_0 0 rfl ?_
  refine r_aload_n (pc := 1) C dX10_failHere_1 0 rfl ?_
  refine xg_tp_place (pc := 2) C kw_1_39 dX10_failHere_2 ?_
  refine xp_tp_fault (pc := 5) C kw_1_45 dX10_failHere_5 (fun S1 => ?_)
  refine r_iconst (pc := 8) C dX10_failHere_8 (v := 0) (by decide) ?_
  exact r_retWZ hR rfl (pc := 9) dX10_failHere_9
set_option maxRecDepth 100000 in
theorem w_X10_failHere {S : CS}  {r : Bool} {S' : CS} (h : f_X10_failHere S = some (r, S')) : gI [5] [] S S' := by
  have hS : gI [5] [] S S := gI_rf
  refine (?_ : jf (gI [5] [] S) Prod.snd (f_X10_failHere S)) _ h
  unfold f_X10_failHere
  refine f_ltS (gI_ci hS (by decide)) (fun S1 hS1 => ?_)
  exact f_some hS1
abbrev rm_X8_isFull_pe : Room := { frames := 0, cells := 0, slots := 0, locals := 0 }
theorem kY_X8_isFull : kY yX8_isFull cX8_isFull 1 (some .boolean) 0 := ⟨kw_1_4, kw_3_10, by decide, by decide, by decide +kernel⟩
def f_X8_isFull_pe (S : CS) : Option (Bool) :=
  (if (S.1 7) < 6 then
  some false
 else
  some true)
set_option maxRecDepth 100000 in
set_option maxHeartbeats 4000000 in
theorem c_X8_isFull_pe {g : KG} {q : Nat → Nat} {E : va_W} {S : CS}  {r : Bool} (h : f_X8_isFull_pe S = some r) : ∀ l, kM l yX8_isFull cX8_isFull 1 (some .boolean) rm_X8_isFull_pe g [.ref (q 4)] (cx g q E S) (cx g q E S) (some (.int (b2 r))) 0 0 := by
  refine k_open_z (own := "MarkChains$Pairs") (by decide) rfl (Nat.le_of_ble_eq_true rfl) (fun X C hR => ?_)
  refine (?_ : jJ X g (r : Bool) (cx g q E S) 0 0 0 [(0, .ref (q 4))] [] (f_X8_isFull_pe S)) h
  unfold f_X8_isFull_pe
  refine r_aload_n (pc := 0) C dX8_isFull_0 0 rfl ?_
  refine xg_pe_size (pc := 1) C kw_1_82 dX8_isFull_1 ?_
  refine r_aload_n (pc := 4) C dX8_isFull_4 0 rfl ?_
  refine xg_pe_first (pc := 5) C kw_1_76 dX8_isFull_5 ?_
  refine xn_pe_first (pc := 8) C dX8_isFull_8 ?_
  refine r_icmp_lt 16 (pc := 9) C dX8_isFull_9 (by decide) ?_ ?_
  · refine r_iconst (pc := 16) C dX8_isFull_16 (v := 0) (by decide) ?_
    exact r_retPZ hR rfl (pc := 17) dX8_isFull_17
  · refine r_iconst (pc := 12) C dX8_isFull_12 (v := 1) (by decide) ?_
    refine r_goto 17 (pc := 13) C dX8_isFull_13 (by decide) ?_
    exact r_retPZ hR rfl (pc := 17) dX8_isFull_17
abbrev rm_X8_isFull_pp : Room := { frames := 0, cells := 0, slots := 0, locals := 0 }
def f_X8_isFull_pp (S : CS) : Option (Bool) :=
  (if (S.1 8) < 8 then
  some false
 else
  some true)
set_option maxRecDepth 100000 in
set_option maxHeartbeats 4000000 in
theorem c_X8_isFull_pp {g : KG} {q : Nat → Nat} {E : va_W} {S : CS}  {r : Bool} (h : f_X8_isFull_pp S = some r) : ∀ l, kM l yX8_isFull cX8_isFull 1 (some .boolean) rm_X8_isFull_pp g [.ref (q 7)] (cx g q E S) (cx g q E S) (some (.int (b2 r))) 0 0 := by
  refine k_open_z (own := "MarkChains$Pairs") (by decide) rfl (Nat.le_of_ble_eq_true rfl) (fun X C hR => ?_)
  refine (?_ : jJ X g (r : Bool) (cx g q E S) 0 0 0 [(0, .ref (q 7))] [] (f_X8_isFull_pp S)) h
  unfold f_X8_isFull_pp
  refine r_aload_n (pc := 0) C dX8_isFull_0 0 rfl ?_
  refine xg_pp_size (pc := 1) C kw_1_82 dX8_isFull_1 ?_
  refine r_aload_n (pc := 4) C dX8_isFull_4 0 rfl ?_
  refine xg_pp_first (pc := 5) C kw_1_76 dX8_isFull_5 ?_
  refine xn_pp_first (pc := 8) C dX8_isFull_8 ?_
  refine r_icmp_lt 16 (pc := 9) C dX8_isFull_9 (by decide) ?_ ?_
  · refine r_iconst (pc := 16) C dX8_isFull_16 (v := 0) (by decide) ?_
    exact r_retPZ hR rfl (pc := 17) dX8_isFull_17
  · refine r_iconst (pc := 12) C dX8_isFull_12 (v := 1) (by decide) ?_
    refine r_goto 17 (pc := 13) C dX8_isFull_13 (by decide) ?_
    exact r_retPZ hR rfl (pc := 17) dX8_isFull_17
abbrev rm_X8_isFull_pa : Room := { frames := 0, cells := 0, slots := 0, locals := 0 }
def f_X8_isFull_pa (S : CS) : Option (Bool) :=
  (if (S.1 9) < 16 then
  some false
 else
  some true)
set_option maxRecDepth 100000 in
set_option maxHeartbeats 4000000 in
theorem c_X8_isFull_pa {g : KG} {q : Nat → Nat} {E : va_W} {S : CS}  {r : Bool} (h : f_X8_isFull_pa S = some r) : ∀ l, kM l yX8_isFull cX8_isFull 1 (some .boolean) rm_X8_isFull_pa g [.ref (q 10)] (cx g q E S) (cx g q E S) (some (.int (b2 r))) 0 0 := by
  refine k_open_z (own := "MarkChains$Pairs") (by decide) rfl (Nat.le_of_ble_eq_true rfl) (fun X C hR => ?_)
  refine (?_ : jJ X g (r : Bool) (cx g q E S) 0 0 0 [(0, .ref (q 10))] [] (f_X8_isFull_pa S)) h
  unfold f_X8_isFull_pa
  refine r_aload_n (pc := 0) C dX8_isFull_0 0 rfl ?_
  refine xg_pa_size (pc := 1) C kw_1_82 dX8_isFull_1 ?_
  refine r_aload_n (pc := 4) C dX8_isFull_4 0 rfl ?_
  refine xg_pa_first (pc := 5) C kw_1_76 dX8_isFull_5 ?_
  refine xn_pa_first (pc := 8) C dX8_isFull_8 ?_
  refine r_icmp_lt 16 (pc := 9) C dX8_isFull_9 (by decide) ?_ ?_
  · refine r_iconst (pc := 16) C dX8_isFull_16 (v := 0) (by decide) ?_
    exact r_retPZ hR rfl (pc := 17) dX8_isFull_17
  · refine r_iconst (pc := 12) C dX8_isFull_12 (v := 1) (by decide) ?_
    refine r_goto 17 (pc := 13) C dX8_isFull_13 (by decide) ?_
    exact r_retPZ hR rfl (pc := 17) dX8_isFull_17
abbrev rm_X1_isFull : Room := { frames := 1, cells := 0, slots := 0, locals := 21 }
theorem kY_X1_isFull : kY yX1_isFull cX1_isFull 3 (some .boolean) 1 := ⟨kw_1_3, kw_3_2, by decide, by decide, by decide +kernel⟩
def f_X1_isFull (S : CS) (a1 : Int32) : Option (Bool) :=
  (if a1 = 0 then
  bp (f_X8_isFull_pe S) (fun x1 =>
  some x1)
 else (if a1 = 1 then
  bp (f_X8_isFull_pp S) (fun x2 =>
  some x2)
 else (if a1 = 2 then
  bp (f_X8_isFull_pa S) (fun x3 =>
  some x3)
 else
  (if (S.1 6) < 60 then
  some false
 else
  some true))))
set_option maxRecDepth 100000 in
set_option maxHeartbeats 4000000 in
theorem c_X1_isFull {g : KG} {q : Nat → Nat} {E : va_W} {S : CS} {a1 : Int32} {r : Bool} (h : f_X1_isFull S a1 = some r) : ∀ l, kM l yX1_isFull cX1_isFull 3 (some .boolean) rm_X1_isFull g [.ref (q 3), .int a1] (cx g q E S) (cx g q E S) (some (.int (b2 r))) 0 0 := by
  refine k_open_z (own := "MarkChains$Book") (by decide) rfl (Nat.le_of_ble_eq_true rfl) (fun X C hR => ?_)
  refine (?_ : jJ X g (r : Bool) (cx g q E S) 0 0 0 [(0, .ref (q 3)), (1, .int a1)] [] (f_X1_isFull S a1)) h
  unfold f_X1_isFull
  refine r_aload_n (pc := 0) C dX1_isFull_0 0 rfl ?_
  refine r_iload_n (pc := 1) C dX1_isFull_1 1 rfl ?_
  refine r_case (fun h2_0 => ?_) (fun h2_0 => ?_)
  · refine r_cVpr (As := [.int a1]) (st := []) (pc := 2) C (c_X1_pairsOf_0 h2_0) kY_X1_pairsOf kw_3_4 kw_3_5 kw_3_3 rfl ⟨Nat.le_of_ble_eq_true rfl, Nat.le_of_ble_eq_true rfl⟩ rfl rfl ⟨Nat.zero_le _, Nat.zero_le _⟩ 3 rfl rfl rfl (Nat.le_of_ble_eq_true rfl) dX1_isFull_2 ?_
    refine r_astore_n (pc := 5) C dX1_isFull_5 (lv' := [(0, .ref (q 3)), (1, .int a1), (2, .ref (q 4))]) (by decide) [1, 2, 0] rfl ?_
    refine r_aload_n (pc := 6) C dX1_isFull_6 2 rfl ?_
    refine r_ifnonnullR 27 (pc := 7) C dX1_isFull_7 (by decide) ?_
    refine r_aload_n (pc := 27) C dX1_isFull_27 2 rfl ?_
    refine r_cVpz (As := []) (st := []) (pc := 28) C (fun _ h => c_X8_isFull_pe h) kY_X8_isFull kw_3_8 kw_3_9 kw_3_7 rfl ⟨Nat.le_of_ble_eq_true rfl, Nat.le_of_ble_eq_true rfl⟩ rfl rfl ⟨Nat.zero_le _, Nat.zero_le _⟩ 4 rfl rfl rfl (Nat.le_of_ble_eq_true rfl) dX1_isFull_28 (fun x1 => ?_)
    exact r_retPZ hR rfl (pc := 31) dX1_isFull_31
  · refine r_case (fun h2_1 => ?_) (fun h2_1 => ?_)
    · refine r_cVpr (As := [.int a1]) (st := []) (pc := 2) C (c_X1_pairsOf_1 h2_1) kY_X1_pairsOf kw_3_4 kw_3_5 kw_3_3 rfl ⟨Nat.le_of_ble_eq_true rfl, Nat.le_of_ble_eq_true rfl⟩ rfl rfl ⟨Nat.zero_le _, Nat.zero_le _⟩ 3 rfl rfl rfl (Nat.le_of_ble_eq_true rfl) dX1_isFull_2 ?_
      refine r_astore_n (pc := 5) C dX1_isFull_5 (lv' := [(0, .ref (q 3)), (1, .int a1), (2, .ref (q 7))]) (by decide) [1, 2, 0] rfl ?_
      refine r_aload_n (pc := 6) C dX1_isFull_6 2 rfl ?_
      refine r_ifnonnullR 27 (pc := 7) C dX1_isFull_7 (by decide) ?_
      refine r_aload_n (pc := 27) C dX1_isFull_27 2 rfl ?_
      refine r_cVpz (As := []) (st := []) (pc := 28) C (fun _ h => c_X8_isFull_pp h) kY_X8_isFull kw_3_8 kw_3_9 kw_3_7 rfl ⟨Nat.le_of_ble_eq_true rfl, Nat.le_of_ble_eq_true rfl⟩ rfl rfl ⟨Nat.zero_le _, Nat.zero_le _⟩ 7 rfl rfl rfl (Nat.le_of_ble_eq_true rfl) dX1_isFull_28 (fun x2 => ?_)
      exact r_retPZ hR rfl (pc := 31) dX1_isFull_31
    · refine r_case (fun h2_2 => ?_) (fun h2_2 => ?_)
      · refine r_cVpr (As := [.int a1]) (st := []) (pc := 2) C (c_X1_pairsOf_2 h2_2) kY_X1_pairsOf kw_3_4 kw_3_5 kw_3_3 rfl ⟨Nat.le_of_ble_eq_true rfl, Nat.le_of_ble_eq_true rfl⟩ rfl rfl ⟨Nat.zero_le _, Nat.zero_le _⟩ 3 rfl rfl rfl (Nat.le_of_ble_eq_true rfl) dX1_isFull_2 ?_
        refine r_astore_n (pc := 5) C dX1_isFull_5 (lv' := [(0, .ref (q 3)), (1, .int a1), (2, .ref (q 10))]) (by decide) [1, 2, 0] rfl ?_
        refine r_aload_n (pc := 6) C dX1_isFull_6 2 rfl ?_
        refine r_ifnonnullR 27 (pc := 7) C dX1_isFull_7 (by decide) ?_
        refine r_aload_n (pc := 27) C dX1_isFull_27 2 rfl ?_
        refine r_cVpz (As := []) (st := []) (pc := 28) C (fun _ h => c_X8_isFull_pa h) kY_X8_isFull kw_3_8 kw_3_9 kw_3_7 rfl ⟨Nat.le_of_ble_eq_true rfl, Nat.le_of_ble_eq_true rfl⟩ rfl rfl ⟨Nat.zero_le _, Nat.zero_le _⟩ 10 rfl rfl rfl (Nat.le_of_ble_eq_true rfl) dX1_isFull_28 (fun x3 => ?_)
        exact r_retPZ hR rfl (pc := 31) dX1_isFull_31
      · refine r_cVpr (As := [.int a1]) (st := []) (pc := 2) C (c_X1_pairsOf_3 h2_0 h2_1 h2_2) kY_X1_pairsOf kw_3_4 kw_3_5 kw_3_3 rfl ⟨Nat.le_of_ble_eq_true rfl, Nat.le_of_ble_eq_true rfl⟩ rfl rfl ⟨Nat.zero_le _, Nat.zero_le _⟩ 3 rfl rfl rfl (Nat.le_of_ble_eq_true rfl) dX1_isFull_2 ?_
        refine r_astore_nN (pc := 5) C dX1_isFull_5 (lv' := [(0, .ref (q 3)), (1, .int a1), (2, .null)]) (by decide) [1, 2, 0] rfl ?_
        refine r_aload_nN (pc := 6) C dX1_isFull_6 2 rfl ?_
        refine r_ifnonnullN (pc := 7) C dX1_isFull_7 ?_
        refine r_aload_n (pc := 10) C dX1_isFull_10 0 rfl ?_
        refine xg_bk_size (pc := 11) C kw_1_125 dX1_isFull_11 ?_
        refine r_bipush (pc := 14) C dX1_isFull_14 (v := 60) (by decide) ?_
        refine r_icmp_lt 23 (pc := 16) C dX1_isFull_16 (by decide) ?_ ?_
        · refine r_iconst (pc := 23) C dX1_isFull_23 (v := 0) (by decide) ?_
          refine r_goto 31 (pc := 24) C dX1_isFull_24 (by decide) ?_
          exact r_retPZ hR rfl (pc := 31) dX1_isFull_31
        · refine r_iconst (pc := 19) C dX1_isFull_19 (v := 1) (by decide) ?_
          refine r_goto 31 (pc := 20) C dX1_isFull_20 (by decide) ?_
          exact r_retPZ hR rfl (pc := 31) dX1_isFull_31
abbrev rm_X10_step : Room := { frames := 0, cells := 0, slots := 0, locals := 0 }
theorem kY_X10_step : kY yX10_step cX10_step 1 none 0 := ⟨kw_1_2, kw_3_18, by decide, by decide, by decide +kernel⟩
def f_X10_step (S : CS) : Option (CS) :=
  lt (ci S 2 ((S.1 2) + 1)) fun S1 =>
  some S1
set_option maxRecDepth 100000 in
set_option maxHeartbeats 4000000 in
theorem c_X10_step {g : KG} {q : Nat → Nat} {E : va_W} {S : CS}  {S' : CS} (h : f_X10_step S = some S') : ∀ l, kM l yX10_step cX10_step 1 none rm_X10_step g [.ref (q 1)] (cx g q E S) (cx g q E S') (none) 0 0 := by
  refine k_open_v (own := "MarkChains$Tape") (by decide) rfl (Nat.le_of_ble_eq_true rfl) (fun X C hR => ?_)
  refine (?_ : jJ X g (S' : CS) (cx g q E S) 0 0 0 [(0, .ref (q 1))] [] (f_X10_step S)) h
  unfold f_X10_step
  refine r_aload_n (pc := 0) C dX10_step_0 0 rfl ?_
  refine r_dup (pc := 1) C dX10_step_1 rfl ?_
  refine xg_tp_place (pc := 2) C kw_1_39 dX10_step_2 ?_
  refine r_iconst (pc := 5) C dX10_step_5 (v := 1) (by decide) ?_
  refine r_iadd (pc := 6) C dX10_step_6 ?_
  refine xp_tp_place (pc := 7) C kw_1_39 dX10_step_7 (fun S1 => ?_)
  exact r_retWV (wf := cx g q E) hR (pc := 10) dX10_step_10
set_option maxRecDepth 100000 in
theorem w_X10_step {S : CS}  {S' : CS} (h : f_X10_step S = some S') : gI [2] [] S S' := by
  have hS : gI [2] [] S S := gI_rf
  refine (?_ : jf (gI [2] [] S) id (f_X10_step S)) _ h
  unfold f_X10_step
  refine f_ltS (gI_ci hS (by decide)) (fun S1 hS1 => ?_)
  exact f_some hS1
abbrev rm_X10_isDigitHere : Room := { frames := 1, cells := 0, slots := 0, locals := 20 }
theorem kY_X10_isDigitHere : kY yX10_isDigitHere cX10_isDigitHere 2 (some .boolean) 0 := ⟨kw_1_2, kw_3_31, by decide, by decide, by decide +kernel⟩
def f_X10_isDigitHere (S : CS) : Option (Bool) :=
  bp (f_X10_peek S) (fun x1 =>
  (if x1 < 48 then
  some false
 else
  (if 57 < x1 then
  some false
 else
  some true)))
set_option maxRecDepth 100000 in
set_option maxHeartbeats 4000000 in
theorem c_X10_isDigitHere {g : KG} {q : Nat → Nat} {E : va_W} {S : CS}  {r : Bool} (h : f_X10_isDigitHere S = some r) : ∀ l, kM l yX10_isDigitHere cX10_isDigitHere 2 (some .boolean) rm_X10_isDigitHere g [.ref (q 1)] (cx g q E S) (cx g q E S) (some (.int (b2 r))) 0 0 := by
  refine k_open_z (own := "MarkChains$Tape") (by decide) rfl (Nat.le_of_ble_eq_true rfl) (fun X C hR => ?_)
  refine (?_ : jJ X g (r : Bool) (cx g q E S) 0 0 0 [(0, .ref (q 1))] [] (f_X10_isDigitHere S)) h
  unfold f_X10_isDigitHere
  refine r_aload_n (pc := 0) C dX10_isDigitHere_0 0 rfl ?_
  refine r_cVpi (As := []) (st := []) (pc := 1) C (fun _ h => c_X10_peek h) kY_X10_peek kw_2_152 kw_2_153 kw_3_23 rfl ⟨Nat.le_of_ble_eq_true rfl, Nat.le_of_ble_eq_true rfl⟩ rfl rfl ⟨Nat.zero_le _, Nat.zero_le _⟩ 1 rfl rfl rfl (Nat.le_of_ble_eq_true rfl) dX10_isDigitHere_1 (fun x1 => ?_)
  refine r_istore_n (pc := 4) C dX10_isDigitHere_4 (lv' := [(0, .ref (q 1)), (1, .int x1)]) (by decide) [1, 0] rfl ?_
  refine r_iload_n (pc := 5) C dX10_isDigitHere_5 1 rfl ?_
  refine r_bipush (pc := 6) C dX10_isDigitHere_6 (v := 48) (by decide) ?_
  refine r_icmp_lt 21 (pc := 8) C dX10_isDigitHere_8 (by decide) ?_ ?_
  · refine r_iconst (pc := 21) C dX10_isDigitHere_21 (v := 0) (by decide) ?_
    exact r_retPZ hR rfl (pc := 22) dX10_isDigitHere_22
  · refine r_iload_n (pc := 11) C dX10_isDigitHere_11 1 rfl ?_
    refine r_bipush (pc := 12) C dX10_isDigitHere_12 (v := 57) (by decide) ?_
    refine r_icmp_gt 21 (pc := 14) C dX10_isDigitHere_14 (by decide) ?_ ?_
    · refine r_iconst (pc := 21) C dX10_isDigitHere_21 (v := 0) (by decide) ?_
      exact r_retPZ hR rfl (pc := 22) dX10_isDigitHere_22
    · refine r_iconst (pc := 17) C dX10_isDigitHere_17 (v := 1) (by decide) ?_
      refine r_goto 22 (pc := 18) C dX10_isDigitHere_18 (by decide) ?_
      exact r_retPZ hR rfl (pc := 22) dX10_isDigitHere_22
abbrev rm_X10_readDigits : Room := { frames := 2, cells := 0, slots := 0, locals := 41 }
theorem kY_X10_readDigits : kY yX10_readDigits cX10_readDigits 2 (some .boolean) 0 := ⟨kw_1_2, kw_3_27, by decide, by decide, by decide +kernel⟩
def L_X10_readDigits_7 (k6 : CS → Int32 → Option (Bool × CS)) : Nat → CS → Int32 → Option (Bool × CS) := lo2 fun rec4 S3 x2 =>
  (if 7 ≤ x2 then
  k6 S3 x2
 else
  bp (f_X10_isDigitHere S3) (fun x8 =>
  (if x8 = true then
  bp (f_X10_peek S3) (fun x9 =>
  lt (ci S3 3 (((S3.1 3) * 10) + (x9 - 48))) fun S10 =>
  lt (ci S10 2 ((S10.1 2) + 1)) fun S11 =>
  lt (x2 + 1) fun x12 =>
  rec4 S11 x12)
 else
  k6 S3 x2)))
set_option maxRecDepth 100000 in
set_option maxHeartbeats 4000000 in
theorem l_X10_readDigits_7 {X : KX} {g : KG} {q : Nat → Nat} {E : va_W} {res : Bool × CS} (C : kC X g cX10_readDigits "MarkChains$Tape" rm_X10_readDigits 2) (hR : ∀ (pc : Nat) (lv : List (Nat × Value)), decode cX10_readDigits pc = .ok (.ireturn, 1) → jW X g (cx g q E res.2) 0 0 pc lv [.int (b2 res.1)]) (k6 : CS → Int32 → Option (Bool × CS)) (hk7 : ∀ (S13 : CS) (x14 : Int32), jJ X g res (cx g q E S13) 0 0 55 [(0, .ref (q 1)), (1, .int x14)] [] (k6 S13 x14)) : ∀ (n : Nat) (S3 : CS) (x2 : Int32), jJ X g res (cx g q E S3) 0 0 7 [(0, .ref (q 1)), (1, .int x2)] [] (L_X10_readDigits_7 k6 n S3 x2) := by
  refine r_lo2 (fun S3 x2 => cx g q E S3) (fun S3 x2 => [(0, .ref (q 1)), (1, .int x2)]) (fun rec4 ih5 S3 x2 => ?_)
  refine r_iload_n (pc := 7) C dX10_readDigits_7 1 rfl ?_
  refine r_bipush (pc := 8) C dX10_readDigits_8 (v := 7) (by decide) ?_
  refine r_icmp_ge 55 (pc := 10) C dX10_readDigits_10 (by decide) ?_ ?_
  · exact hk7 S3 x2
  · refine r_aload_n (pc := 13) C dX10_readDigits_13 0 rfl ?_
    refine r_cVpz (As := []) (st := []) (pc := 14) C (fun _ h => c_X10_isDigitHere h) kY_X10_isDigitHere kw_3_29 kw_3_30 kw_3_28 rfl ⟨Nat.le_of_ble_eq_true rfl, Nat.le_of_ble_eq_true rfl⟩ rfl rfl ⟨Nat.zero_le _, Nat.zero_le _⟩ 1 rfl rfl rfl (Nat.le_of_ble_eq_true rfl) dX10_readDigits_14 (fun x8 => ?_)
    refine r_ifb_eq 55 (pc := 17) C dX10_readDigits_17 (by decide) ?_ ?_
    · exact hk7 S3 x2
    · refine r_aload_n (pc := 20) C dX10_readDigits_20 0 rfl ?_
      refine r_aload_n (pc := 21) C dX10_readDigits_21 0 rfl ?_
      refine xg_tp_number (pc := 22) C kw_1_40 dX10_readDigits_22 ?_
      refine r_bipush (pc := 25) C dX10_readDigits_25 (v := 10) (by decide) ?_
      refine r_imul (pc := 27) C dX10_readDigits_27 ?_
      refine r_aload_n (pc := 28) C dX10_readDigits_28 0 rfl ?_
      refine r_cVpi (As := []) (st := [.int ((S3.1 3) * 10), .ref (q 1)]) (pc := 29) C (fun _ h => c_X10_peek h) kY_X10_peek kw_2_152 kw_2_153 kw_3_23 rfl ⟨Nat.le_of_ble_eq_true rfl, Nat.le_of_ble_eq_true rfl⟩ rfl rfl ⟨Nat.zero_le _, Nat.zero_le _⟩ 1 rfl rfl rfl (Nat.le_of_ble_eq_true rfl) dX10_readDigits_29 (fun x9 => ?_)
      refine r_bipush (pc := 32) C dX10_readDigits_32 (v := 48) (by decide) ?_
      refine r_isub (pc := 34) C dX10_readDigits_34 ?_
      refine r_iadd (pc := 35) C dX10_readDigits_35 ?_
      refine xp_tp_number (pc := 36) C kw_1_40 dX10_readDigits_36 (fun S10 => ?_)
      refine r_aload_n (pc := 39) C dX10_readDigits_39 0 rfl ?_
      refine r_dup (pc := 40) C dX10_readDigits_40 rfl ?_
      refine xg_tp_place (pc := 41) C kw_1_39 dX10_readDigits_41 ?_
      refine r_iconst (pc := 44) C dX10_readDigits_44 (v := 1) (by decide) ?_
      refine r_iadd (pc := 45) C dX10_readDigits_45 ?_
      refine xp_tp_place (pc := 46) C kw_1_39 dX10_readDigits_46 (fun S11 => ?_)
      refine r_iinc (pc := 49) C dX10_readDigits_49 (v := 1) (lv' := fun x12 => [(0, .ref (q 1)), (1, .int x12)]) 1 rfl (by decide) (by decide) [1, 0] (fun _ => rfl) (fun x12 => ?_)
      refine r_goto 7 (pc := 52) C dX10_readDigits_52 (by decide) ?_
      exact ih5 S11 x12
set_option maxRecDepth 100000 in
theorem v_X10_readDigits_7 {S0 : CS} {k6 : CS → Int32 → Option (Bool × CS)} (hk7 : ∀ (S13 : CS) (x14 : Int32), (gI [2, 3, 5] [] S0) S13 → jf (gI [2, 3, 5] [] S0) Prod.snd (k6 S13 x14)) : ∀ (n : Nat) (S3 : CS) (x2 : Int32), (gI [2, 3, 5] [] S0) S3 → jf (gI [2, 3, 5] [] S0) Prod.snd (L_X10_readDigits_7 k6 n S3 x2) := by
  refine f_lo2 (I := (gI [2, 3, 5] [] S0)) (fun S3 x2 => S3) (fun rec4 ih5 S3 x2 hS3 => ?_)
  refine f_ite ?_ ?_
  · exact hk7 S3 x2 hS3
  · refine f_bp (fun x8 => ?_)
    refine f_ite ?_ ?_
    · refine f_bp (fun x9 => ?_)
      refine f_ltS (gI_ci hS3 (by decide)) (fun S10 hS10 => ?_)
      refine f_ltS (gI_ci hS10 (by decide)) (fun S11 hS11 => ?_)
      refine f_lt (fun x12 => ?_)
      exact ih5 S11 x12 hS11
    · exact hk7 S3 x2 hS3
def f_X10_readDigits (S : CS) : Option (Bool × CS) :=
  lt (ci S 3 0) fun S1 =>
  L_X10_readDigits_7 (fun S15 x16 =>
  jn0 (bw (f_X10_failHere S15) (fun x17 S18 =>
  (if x17 = true then
  some (true, S18)
 else
  some (false, S18)))) (fun k19 =>
  (if x16 ≤ 0 then
  k19
 else
  bp (f_X10_isDigitHere S15) (fun x21 =>
  (if x21 = true then
  k19
 else
  some (true, S15)))))) FU S1 0
set_option maxRecDepth 100000 in
set_option maxHeartbeats 4000000 in
theorem c_X10_readDigits {g : KG} {q : Nat → Nat} {E : va_W} {S : CS}  {r : Bool} {S' : CS} (h : f_X10_readDigits S = some (r, S')) : ∀ l, kM l yX10_readDigits cX10_readDigits 2 (some .boolean) rm_X10_readDigits g [.ref (q 1)] (cx g q E S) (cx g q E S') (some (.int (b2 r))) 0 0 := by
  refine k_open_z (own := "MarkChains$Tape") (by decide) rfl (Nat.le_of_ble_eq_true rfl) (fun X C hR => ?_)
  refine (?_ : jJ X g ((r, S') : Bool × CS) (cx g q E S) 0 0 0 [(0, .ref (q 1))] [] (f_X10_readDigits S)) h
  unfold f_X10_readDigits
  refine r_aload_n (pc := 0) C dX10_readDigits_0 0 rfl ?_
  refine r_iconst (pc := 1) C dX10_readDigits_1 (v := 0) (by decide) ?_
  refine xp_tp_number (pc := 2) C kw_1_40 dX10_readDigits_2 (fun S1 => ?_)
  refine r_iconst (pc := 5) C dX10_readDigits_5 (v := 0) (by decide) ?_
  refine r_istore_n (pc := 6) C dX10_readDigits_6 (lv' := [(0, .ref (q 1)), (1, .int 0)]) (by decide) [1, 0] rfl ?_
  refine l_X10_readDigits_7 C hR _ (fun S15 x16 => ?_) FU S1 0
  refine r_iload_n (pc := 55) C dX10_readDigits_55 1 rfl ?_
  refine r_jn0 66 (cx g q E S15) ([(0, .ref (q 1))]) ([]) ?_ (fun k19 hk20 => ?_)
  · refine r_aload_n (pc := 66) C dX10_readDigits_66 0 rfl ?_
    refine r_cVwz (As := []) (st := []) (wf := cx g q E) (pc := 67) C (fun _ _ h => c_X10_failHere h) kY_X10_failHere kw_3_12 kw_3_13 kw_3_32 rfl ⟨Nat.le_of_ble_eq_true rfl, Nat.le_of_ble_eq_true rfl⟩ rfl rfl ⟨Nat.zero_le _, Nat.zero_le _⟩ 1 rfl rfl rfl (Nat.le_of_ble_eq_true rfl) dX10_readDigits_67 (fun x17 S18 => ?_)
    refine r_ifb_eq 77 (pc := 70) C dX10_readDigits_70 (by decide) ?_ ?_
    · refine r_iconst (pc := 77) C dX10_readDigits_77 (v := 0) (by decide) ?_
      exact r_retWZ hR rfl (pc := 78) dX10_readDigits_78
    · refine r_iconst (pc := 73) C dX10_readDigits_73 (v := 1) (by decide) ?_
      refine r_goto 78 (pc := 74) C dX10_readDigits_74 (by decide) ?_
      exact r_retWZ hR rfl (pc := 78) dX10_readDigits_78
  · refine r_if_le 66 (pc := 56) C dX10_readDigits_56 (by decide) ?_ ?_
    · refine r_sub (lv' := [(0, .ref (q 1))]) [0] rfl ?_
      exact hk20
    · refine r_aload_n (pc := 59) C dX10_readDigits_59 0 rfl ?_
      refine r_cVpz (As := []) (st := []) (pc := 60) C (fun _ h => c_X10_isDigitHere h) kY_X10_isDigitHere kw_3_29 kw_3_30 kw_3_28 rfl ⟨Nat.le_of_ble_eq_true rfl, Nat.le_of_ble_eq_true rfl⟩ rfl rfl ⟨Nat.zero_le _, Nat.zero_le _⟩ 1 rfl rfl rfl (Nat.le_of_ble_eq_true rfl) dX10_readDigits_60 (fun x21 => ?_)
      refine r_ifb_eq 73 (pc := 63) C dX10_readDigits_63 (by decide) ?_ ?_
      · refine r_iconst (pc := 73) C dX10_readDigits_73 (v := 1) (by decide) ?_
        refine r_goto 78 (pc := 74) C dX10_readDigits_74 (by decide) ?_
        exact r_retWZ hR rfl (pc := 78) dX10_readDigits_78
      · refine r_sub (lv' := [(0, .ref (q 1))]) [0] rfl ?_
        exact hk20
set_option maxRecDepth 100000 in
theorem w_X10_readDigits {S : CS}  {r : Bool} {S' : CS} (h : f_X10_readDigits S = some (r, S')) : gI [2, 3, 5] [] S S' := by
  have hS : gI [2, 3, 5] [] S S := gI_rf
  refine (?_ : jf (gI [2, 3, 5] [] S) Prod.snd (f_X10_readDigits S)) _ h
  unfold f_X10_readDigits
  refine f_ltS (gI_ci hS (by decide)) (fun S1 hS1 => ?_)
  refine v_X10_readDigits_7 (fun S15 x16 hS15 => ?_) FU S1 0 hS1
  refine f_jm0 hS15 (fun  hS15 => ?_) (fun k19 hk20 => ?_)
  · refine f_bwS (fun _ _ h => gI_tr hS15 (w_X10_failHere h) (by decide) (by decide)) (fun x17 S18 hS18 => ?_)
    refine f_ite ?_ ?_
    · exact f_some hS18
    · exact f_some hS18
  · refine f_ite ?_ ?_
    · exact hk20 hS15
    · refine f_bp (fun x21 => ?_)
      refine f_ite ?_ ?_
      · exact hk20 hS15
      · exact f_some hS15
abbrev rm_X10_readNumber : Room := { frames := 3, cells := 0, slots := 0, locals := 62 }
theorem kY_X10_readNumber : kY yX10_readNumber cX10_readNumber 2 (some .boolean) 0 := ⟨kw_1_2, kw_3_22, by decide, by decide, by decide +kernel⟩
def f_X10_readNumber (S : CS) : Option (Bool × CS) :=
  lt (ci S 4 (S.1 2)) fun S1 =>
  bp (f_X10_peek S1) (fun x2 =>
  jn1 (fun (x3 : Int32) =>
  jn1 (fun (S4 : CS) =>
  bw (f_X10_readDigits S4) (fun x5 S6 =>
  (if x5 = true then
  (if x3 = 0 then
  some (true, S6)
 else
  lt (ci S6 3 (-(S6.1 3))) fun S7 =>
  some (true, S7))
 else
  some (false, S6)))) (fun k8 =>
  (if x3 = 0 then
  k8 S1
 else
  lt (ci S1 2 ((S1.1 2) + 1)) fun S10 =>
  k8 S10))) (fun k11 =>
  (if x2 = 45 then
  k11 1
 else
  k11 0)))
set_option maxRecDepth 100000 in
set_option maxHeartbeats 4000000 in
theorem c_X10_readNumber {g : KG} {q : Nat → Nat} {E : va_W} {S : CS}  {r : Bool} {S' : CS} (h : f_X10_readNumber S = some (r, S')) : ∀ l, kM l yX10_readNumber cX10_readNumber 2 (some .boolean) rm_X10_readNumber g [.ref (q 1)] (cx g q E S) (cx g q E S') (some (.int (b2 r))) 0 0 := by
  refine k_open_z (own := "MarkChains$Tape") (by decide) rfl (Nat.le_of_ble_eq_true rfl) (fun X C hR => ?_)
  refine (?_ : jJ X g ((r, S') : Bool × CS) (cx g q E S) 0 0 0 [(0, .ref (q 1))] [] (f_X10_readNumber S)) h
  unfold f_X10_readNumber
  refine r_aload_n (pc := 0) C dX10_readNumber_0 0 rfl ?_
  refine r_aload_n (pc := 1) C dX10_readNumber_1 0 rfl ?_
  refine xg_tp_place (pc := 2) C kw_1_39 dX10_readNumber_2 ?_
  refine xp_tp_numberPlace (pc := 5) C kw_1_44 dX10_readNumber_5 (fun S1 => ?_)
  refine r_aload_n (pc := 8) C dX10_readNumber_8 0 rfl ?_
  refine r_cVpi (As := []) (st := []) (pc := 9) C (fun _ h => c_X10_peek h) kY_X10_peek kw_2_152 kw_2_153 kw_3_23 rfl ⟨Nat.le_of_ble_eq_true rfl, Nat.le_of_ble_eq_true rfl⟩ rfl rfl ⟨Nat.zero_le _, Nat.zero_le _⟩ 1 rfl rfl rfl (Nat.le_of_ble_eq_true rfl) dX10_readNumber_9 (fun x2 => ?_)
  refine r_bipush (pc := 12) C dX10_readNumber_12 (v := 45) (by decide) ?_
  refine r_jn1 22 (fun (x3 : Int32) => cx g q E S1) (fun (x3 : Int32) => [(0, .ref (q 1))]) (fun (x3 : Int32) => [.int x3]) (fun x3 => ?_) (fun k11 hk12 => ?_)
  · refine r_istore_n (pc := 22) C dX10_readNumber_22 (lv' := [(0, .ref (q 1)), (1, .int x3)]) (by decide) [1, 0] rfl ?_
    refine r_iload_n (pc := 23) C dX10_readNumber_23 1 rfl ?_
    refine r_jn1 37 (fun (S4 : CS) => cx g q E S4) (fun (S4 : CS) => [(0, .ref (q 1)), (1, .int x3)]) (fun (S4 : CS) => []) (fun S4 => ?_) (fun k8 hk9 => ?_)
    · refine r_aload_n (pc := 37) C dX10_readNumber_37 0 rfl ?_
      refine r_cVwz (As := []) (st := []) (wf := cx g q E) (pc := 38) C (fun _ _ h => c_X10_readDigits h) kY_X10_readDigits kw_3_25 kw_3_26 kw_3_24 rfl ⟨Nat.le_of_ble_eq_true rfl, Nat.le_of_ble_eq_true rfl⟩ rfl rfl ⟨Nat.zero_le _, Nat.zero_le _⟩ 1 rfl rfl rfl (Nat.le_of_ble_eq_true rfl) dX10_readNumber_38 (fun x5 S6 => ?_)
      refine r_ifb_ne 46 (pc := 41) C dX10_readNumber_41 (by decide) ?_ ?_
      · refine r_iload_n (pc := 46) C dX10_readNumber_46 1 rfl ?_
        refine r_if_eq 59 (pc := 47) C dX10_readNumber_47 (by decide) ?_ ?_
        · refine r_iconst (pc := 59) C dX10_readNumber_59 (v := 1) (by decide) ?_
          exact r_retWZ hR rfl (pc := 60) dX10_readNumber_60
        · refine r_aload_n (pc := 50) C dX10_readNumber_50 0 rfl ?_
          refine r_aload_n (pc := 51) C dX10_readNumber_51 0 rfl ?_
          refine xg_tp_number (pc := 52) C kw_1_40 dX10_readNumber_52 ?_
          refine r_ineg (pc := 55) C dX10_readNumber_55 ?_
          refine xp_tp_number (pc := 56) C kw_1_40 dX10_readNumber_56 (fun S7 => ?_)
          refine r_iconst (pc := 59) C dX10_readNumber_59 (v := 1) (by decide) ?_
          exact r_retWZ hR rfl (pc := 60) dX10_readNumber_60
      · refine r_iconst (pc := 44) C dX10_readNumber_44 (v := 0) (by decide) ?_
        exact r_retWZ hR rfl (pc := 45) dX10_readNumber_45
    · refine r_if_eq 37 (pc := 24) C dX10_readNumber_24 (by decide) ?_ ?_
      · exact hk9 S1
      · refine r_aload_n (pc := 27) C dX10_readNumber_27 0 rfl ?_
        refine r_dup (pc := 28) C dX10_readNumber_28 rfl ?_
        refine xg_tp_place (pc := 29) C kw_1_39 dX10_readNumber_29 ?_
        refine r_iconst (pc := 32) C dX10_readNumber_32 (v := 1) (by decide) ?_
        refine r_iadd (pc := 33) C dX10_readNumber_33 ?_
        refine xp_tp_place (pc := 34) C kw_1_39 dX10_readNumber_34 (fun S10 => ?_)
        exact hk9 S10
  · refine r_icmp_ne 21 (pc := 14) C dX10_readNumber_14 (by decide) ?_ ?_
    · refine r_iconst (pc := 21) C dX10_readNumber_21 (v := 0) (by decide) ?_
      exact hk12 0
    · refine r_iconst (pc := 17) C dX10_readNumber_17 (v := 1) (by decide) ?_
      refine r_goto 22 (pc := 18) C dX10_readNumber_18 (by decide) ?_
      exact hk12 1
set_option maxRecDepth 100000 in
theorem w_X10_readNumber {S : CS}  {r : Bool} {S' : CS} (h : f_X10_readNumber S = some (r, S')) : gI [2, 3, 4, 5] [] S S' := by
  have hS : gI [2, 3, 4, 5] [] S S := gI_rf
  refine (?_ : jf (gI [2, 3, 4, 5] [] S) Prod.snd (f_X10_readNumber S)) _ h
  unfold f_X10_readNumber
  refine f_ltS (gI_ci hS (by decide)) (fun S1 hS1 => ?_)
  refine f_bp (fun x2 => ?_)
  refine f_jm1 hS1 (fun x3 hS1 => ?_) (fun k11 hk12 => ?_)
  · refine f_jn1 (fun S4 hS4 => ?_) (fun k8 hk9 => ?_)
    · refine f_bwS (fun _ _ h => gI_tr hS4 (w_X10_readDigits h) (by decide) (by decide)) (fun x5 S6 hS6 => ?_)
      refine f_ite ?_ ?_
      · refine f_ite ?_ ?_
        · exact f_some hS6
        · refine f_ltS (gI_ci hS6 (by decide)) (fun S7 hS7 => ?_)
          exact f_some hS7
      · exact f_some hS6
    · refine f_ite ?_ ?_
      · exact hk9 S1 hS1
      · refine f_ltS (gI_ci hS1 (by decide)) (fun S10 hS10 => ?_)
        exact hk9 S10 hS10
  · refine f_ite ?_ ?_
    · exact hk12 1 hS1
    · exact hk12 0 hS1
abbrev rm_X8_has_pe : Room := { frames := 0, cells := 0, slots := 0, locals := 0 }
theorem kY_X8_has : kY yX8_has cX8_has 2 (some .boolean) 1 := ⟨kw_1_4, kw_3_48, by decide, by decide, by decide +kernel⟩
def f_X8_has_pe (S : CS) (a1 : Int32) : Option (Bool) :=
  (if a1 < 0 then
  some false
 else
  (if (S.1 7) ≤ a1 then
  some false
 else
  some true))
set_option maxRecDepth 100000 in
set_option maxHeartbeats 4000000 in
theorem c_X8_has_pe {g : KG} {q : Nat → Nat} {E : va_W} {S : CS} {a1 : Int32} {r : Bool} (h : f_X8_has_pe S a1 = some r) : ∀ l, kM l yX8_has cX8_has 2 (some .boolean) rm_X8_has_pe g [.ref (q 4), .int a1] (cx g q E S) (cx g q E S) (some (.int (b2 r))) 0 0 := by
  refine k_open_z (own := "MarkChains$Pairs") (by decide) rfl (Nat.le_of_ble_eq_true rfl) (fun X C hR => ?_)
  refine (?_ : jJ X g (r : Bool) (cx g q E S) 0 0 0 [(0, .ref (q 4)), (1, .int a1)] [] (f_X8_has_pe S a1)) h
  unfold f_X8_has_pe
  refine r_iload_n (pc := 0) C dX8_has_0 1 rfl ?_
  refine r_if_lt 16 (pc := 1) C dX8_has_1 (by decide) ?_ ?_
  · refine r_iconst (pc := 16) C dX8_has_16 (v := 0) (by decide) ?_
    exact r_retPZ hR rfl (pc := 17) dX8_has_17
  · refine r_iload_n (pc := 4) C dX8_has_4 1 rfl ?_
    refine r_aload_n (pc := 5) C dX8_has_5 0 rfl ?_
    refine xg_pe_size (pc := 6) C kw_1_82 dX8_has_6 ?_
    refine r_icmp_ge 16 (pc := 9) C dX8_has_9 (by decide) ?_ ?_
    · refine r_iconst (pc := 16) C dX8_has_16 (v := 0) (by decide) ?_
      exact r_retPZ hR rfl (pc := 17) dX8_has_17
    · refine r_iconst (pc := 12) C dX8_has_12 (v := 1) (by decide) ?_
      refine r_goto 17 (pc := 13) C dX8_has_13 (by decide) ?_
      exact r_retPZ hR rfl (pc := 17) dX8_has_17
abbrev rm_X8_has_pa : Room := { frames := 0, cells := 0, slots := 0, locals := 0 }
def f_X8_has_pa (S : CS) (a1 : Int32) : Option (Bool) :=
  (if a1 < 0 then
  some false
 else
  (if (S.1 9) ≤ a1 then
  some false
 else
  some true))
set_option maxRecDepth 100000 in
set_option maxHeartbeats 4000000 in
theorem c_X8_has_pa {g : KG} {q : Nat → Nat} {E : va_W} {S : CS} {a1 : Int32} {r : Bool} (h : f_X8_has_pa S a1 = some r) : ∀ l, kM l yX8_has cX8_has 2 (some .boolean) rm_X8_has_pa g [.ref (q 10), .int a1] (cx g q E S) (cx g q E S) (some (.int (b2 r))) 0 0 := by
  refine k_open_z (own := "MarkChains$Pairs") (by decide) rfl (Nat.le_of_ble_eq_true rfl) (fun X C hR => ?_)
  refine (?_ : jJ X g (r : Bool) (cx g q E S) 0 0 0 [(0, .ref (q 10)), (1, .int a1)] [] (f_X8_has_pa S a1)) h
  unfold f_X8_has_pa
  refine r_iload_n (pc := 0) C dX8_has_0 1 rfl ?_
  refine r_if_lt 16 (pc := 1) C dX8_has_1 (by decide) ?_ ?_
  · refine r_iconst (pc := 16) C dX8_has_16 (v := 0) (by decide) ?_
    exact r_retPZ hR rfl (pc := 17) dX8_has_17
  · refine r_iload_n (pc := 4) C dX8_has_4 1 rfl ?_
    refine r_aload_n (pc := 5) C dX8_has_5 0 rfl ?_
    refine xg_pa_size (pc := 6) C kw_1_82 dX8_has_6 ?_
    refine r_icmp_ge 16 (pc := 9) C dX8_has_9 (by decide) ?_ ?_
    · refine r_iconst (pc := 16) C dX8_has_16 (v := 0) (by decide) ?_
      exact r_retPZ hR rfl (pc := 17) dX8_has_17
    · refine r_iconst (pc := 12) C dX8_has_12 (v := 1) (by decide) ?_
      refine r_goto 17 (pc := 13) C dX8_has_13 (by decide) ?_
      exact r_retPZ hR rfl (pc := 17) dX8_has_17
abbrev rm_X8_has_pp : Room := { frames := 0, cells := 0, slots := 0, locals := 0 }
def f_X8_has_pp (S : CS) (a1 : Int32) : Option (Bool) :=
  (if a1 < 0 then
  some false
 else
  (if (S.1 8) ≤ a1 then
  some false
 else
  some true))
set_option maxRecDepth 100000 in
set_option maxHeartbeats 4000000 in
theorem c_X8_has_pp {g : KG} {q : Nat → Nat} {E : va_W} {S : CS} {a1 : Int32} {r : Bool} (h : f_X8_has_pp S a1 = some r) : ∀ l, kM l yX8_has cX8_has 2 (some .boolean) rm_X8_has_pp g [.ref (q 7), .int a1] (cx g q E S) (cx g q E S) (some (.int (b2 r))) 0 0 := by
  refine k_open_z (own := "MarkChains$Pairs") (by decide) rfl (Nat.le_of_ble_eq_true rfl) (fun X C hR => ?_)
  refine (?_ : jJ X g (r : Bool) (cx g q E S) 0 0 0 [(0, .ref (q 7)), (1, .int a1)] [] (f_X8_has_pp S a1)) h
  unfold f_X8_has_pp
  refine r_iload_n (pc := 0) C dX8_has_0 1 rfl ?_
  refine r_if_lt 16 (pc := 1) C dX8_has_1 (by decide) ?_ ?_
  · refine r_iconst (pc := 16) C dX8_has_16 (v := 0) (by decide) ?_
    exact r_retPZ hR rfl (pc := 17) dX8_has_17
  · refine r_iload_n (pc := 4) C dX8_has_4 1 rfl ?_
    refine r_aload_n (pc := 5) C dX8_has_5 0 rfl ?_
    refine xg_pp_size (pc := 6) C kw_1_82 dX8_has_6 ?_
    refine r_icmp_ge 16 (pc := 9) C dX8_has_9 (by decide) ?_ ?_
    · refine r_iconst (pc := 16) C dX8_has_16 (v := 0) (by decide) ?_
      exact r_retPZ hR rfl (pc := 17) dX8_has_17
    · refine r_iconst (pc := 12) C dX8_has_12 (v := 1) (by decide) ?_
      refine r_goto 17 (pc := 13) C dX8_has_13 (by decide) ?_
      exact r_retPZ hR rfl (pc := 17) dX8_has_17
abbrev rm_X6_isToldAhead : Room := { frames := 1, cells := 0, slots := 0, locals := 21 }
theorem kY_X6_isToldAhead : kY yX6_isToldAhead cX6_isToldAhead 4 (some .boolean) 3 := ⟨kw_1_6, kw_3_44, by decide, by decide, by decide +kernel⟩
def f_X6_isToldAhead (S : CS) (a1 : Int32) (a2 : Int32) (a3 : Int32) : Option (Bool) :=
  (if a1 = 0 then
  bp (f_X8_has_pe S a2) (fun x1 =>
  some x1)
 else
  (if a1 = 1 then
  bp (f_X8_has_pa S a2) (fun x2 =>
  some x2)
 else
  (if a1 = 2 then
  bp (f_X8_has_pp S a2) (fun x3 =>
  some x3)
 else
  (if a1 = 3 then
  (if a3 < a2 then
  some false
 else
  some true)
 else
  some true))))
set_option maxRecDepth 100000 in
set_option maxHeartbeats 4000000 in
theorem c_X6_isToldAhead {g : KG} {q : Nat → Nat} {E : va_W} {S : CS} {a1 : Int32} {a2 : Int32} {a3 : Int32} {r : Bool} (h : f_X6_isToldAhead S a1 a2 a3 = some r) : ∀ l, kM l yX6_isToldAhead cX6_isToldAhead 4 (some .boolean) rm_X6_isToldAhead g [.ref (q 25), .int a1, .int a2, .int a3] (cx g q E S) (cx g q E S) (some (.int (b2 r))) 0 0 := by
  refine k_open_z (own := "MarkChains$ItemReader") (by decide) rfl (Nat.le_of_ble_eq_true rfl) (fun X C hR => ?_)
  refine (?_ : jJ X g (r : Bool) (cx g q E S) 0 0 0 [(0, .ref (q 25)), (1, .int a1), (2, .int a2), (3, .int a3)] [] (f_X6_isToldAhead S a1 a2 a3)) h
  unfold f_X6_isToldAhead
  refine r_iload_n (pc := 0) C dX6_isToldAhead_0 1 rfl ?_
  refine r_case (fun h1_0 => ?_) (fun h1_0 => ?_)
  · refine r_tabIn (off := 31) 32 (pc := 1) C dX6_isToldAhead_1 h1_0 (by decide) (by decide) (by decide) (by decide) ?_
    refine r_aload_n (pc := 32) C dX6_isToldAhead_32 0 rfl ?_
    refine xg_ir_book (pc := 33) C kw_1_168 dX6_isToldAhead_33 ?_
    refine xgN_bk_events (pc := 36) C knf_11 dX6_isToldAhead_36 ?_
    refine r_iload_n (pc := 39) C dX6_isToldAhead_39 2 rfl ?_
    refine r_cVpz (As := [.int a2]) (st := []) (pc := 40) C (fun _ h => c_X8_has_pe h) kY_X8_has kw_3_46 kw_3_47 kw_3_45 rfl ⟨Nat.le_of_ble_eq_true rfl, Nat.le_of_ble_eq_true rfl⟩ rfl rfl ⟨Nat.zero_le _, Nat.zero_le _⟩ 4 rfl rfl rfl (Nat.le_of_ble_eq_true rfl) dX6_isToldAhead_40 (fun x1 => ?_)
    exact r_retPZ hR rfl (pc := 43) dX6_isToldAhead_43
  · refine r_case (fun h1_1 => ?_) (fun h1_1 => ?_)
    · refine r_tabIn (off := 43) 44 (pc := 1) C dX6_isToldAhead_1 h1_1 (by decide) (by decide) (by decide) (by decide) ?_
      refine r_aload_n (pc := 44) C dX6_isToldAhead_44 0 rfl ?_
      refine xg_ir_book (pc := 45) C kw_1_168 dX6_isToldAhead_45 ?_
      refine xgN_bk_athletes (pc := 48) C knf_15 dX6_isToldAhead_48 ?_
      refine r_iload_n (pc := 51) C dX6_isToldAhead_51 2 rfl ?_
      refine r_cVpz (As := [.int a2]) (st := []) (pc := 52) C (fun _ h => c_X8_has_pa h) kY_X8_has kw_3_46 kw_3_47 kw_3_45 rfl ⟨Nat.le_of_ble_eq_true rfl, Nat.le_of_ble_eq_true rfl⟩ rfl rfl ⟨Nat.zero_le _, Nat.zero_le _⟩ 10 rfl rfl rfl (Nat.le_of_ble_eq_true rfl) dX6_isToldAhead_52 (fun x2 => ?_)
      exact r_retPZ hR rfl (pc := 55) dX6_isToldAhead_55
    · refine r_case (fun h1_2 => ?_) (fun h1_2 => ?_)
      · refine r_tabIn (off := 55) 56 (pc := 1) C dX6_isToldAhead_1 h1_2 (by decide) (by decide) (by decide) (by decide) ?_
        refine r_aload_n (pc := 56) C dX6_isToldAhead_56 0 rfl ?_
        refine xg_ir_book (pc := 57) C kw_1_168 dX6_isToldAhead_57 ?_
        refine xgN_bk_places (pc := 60) C knf_13 dX6_isToldAhead_60 ?_
        refine r_iload_n (pc := 63) C dX6_isToldAhead_63 2 rfl ?_
        refine r_cVpz (As := [.int a2]) (st := []) (pc := 64) C (fun _ h => c_X8_has_pp h) kY_X8_has kw_3_46 kw_3_47 kw_3_45 rfl ⟨Nat.le_of_ble_eq_true rfl, Nat.le_of_ble_eq_true rfl⟩ rfl rfl ⟨Nat.zero_le _, Nat.zero_le _⟩ 7 rfl rfl rfl (Nat.le_of_ble_eq_true rfl) dX6_isToldAhead_64 (fun x3 => ?_)
        exact r_retPZ hR rfl (pc := 67) dX6_isToldAhead_67
      · refine r_case (fun h1_3 => ?_) (fun h1_3 => ?_)
        · refine r_tabIn (off := 67) 68 (pc := 1) C dX6_isToldAhead_1 h1_3 (by decide) (by decide) (by decide) (by decide) ?_
          refine r_iload_n (pc := 68) C dX6_isToldAhead_68 2 rfl ?_
          refine r_iload_n (pc := 69) C dX6_isToldAhead_69 3 rfl ?_
          refine r_icmp_gt 77 (pc := 70) C dX6_isToldAhead_70 (by decide) ?_ ?_
          · refine r_iconst (pc := 77) C dX6_isToldAhead_77 (v := 0) (by decide) ?_
            exact r_retPZ hR rfl (pc := 78) dX6_isToldAhead_78
          · refine r_iconst (pc := 73) C dX6_isToldAhead_73 (v := 1) (by decide) ?_
            refine r_goto 78 (pc := 74) C dX6_isToldAhead_74 (by decide) ?_
            exact r_retPZ hR rfl (pc := 78) dX6_isToldAhead_78
        · refine r_tabDef 79 (pc := 1) C dX6_isToldAhead_1 (by decide) (fun j hj => ?_) (by decide) ?_
          · match j, hj with
            | 0, _ => exact Or.inr (lv_neT h1_0 (by decide))
            | 1, _ => exact Or.inr (lv_neT h1_1 (by decide))
            | 2, _ => exact Or.inr (lv_neT h1_2 (by decide))
            | 3, _ => exact Or.inr (lv_neT h1_3 (by decide))
            | j + 4, hj => exact absurd hj (by simp)
          · refine r_iconst (pc := 79) C dX6_isToldAhead_79 (v := 1) (by decide) ?_
            exact r_retPZ hR rfl (pc := 80) dX6_isToldAhead_80
abbrev rm_X6_canBe : Room := { frames := 2, cells := 0, slots := 0, locals := 44 }
theorem kY_X6_canBe : kY yX6_canBe cX6_canBe 6 (some .boolean) 4 := ⟨kw_1_6, kw_3_36, by decide, by decide, by decide +kernel⟩
def f_X6_canBe (S : CS) (a1 : Int32) (a2 : Int32) (a3 : Int32) (a4 : Int32) : Option (Bool) :=
  lt ((a1 * 2) + a2) fun x1 =>
  (if x1 < 0 then
  some false
 else
  (if 15 ≤ x1 then
  some false
 else
  chk x1 15 (
  (if a3 < (sT_2.getD x1.toNatClampNeg 0) then
  some false
 else
  chk x1 15 (
  (if a3 ≤ (sT_3.getD x1.toNatClampNeg 0) then
  (if a1 = 3 then
  bp (f_X6_isToldAhead S a2 a3 a4) (fun x2 =>
  (if x2 = true then
  some true
 else
  some false))
 else
  some true)
 else
  some false))))))
set_option maxRecDepth 100000 in
set_option maxHeartbeats 4000000 in
theorem c_X6_canBe {g : KG} {q : Nat → Nat} {E : va_W} {S : CS} {a1 : Int32} {a2 : Int32} {a3 : Int32} {a4 : Int32} {r : Bool} (h : f_X6_canBe S a1 a2 a3 a4 = some r) : ∀ l, kM l yX6_canBe cX6_canBe 6 (some .boolean) rm_X6_canBe g [.ref (q 25), .int a1, .int a2, .int a3, .int a4] (cx g q E S) (cx g q E S) (some (.int (b2 r))) 0 0 := by
  refine k_open_z (own := "MarkChains$ItemReader") (by decide) rfl (Nat.le_of_ble_eq_true rfl) (fun X C hR => ?_)
  refine (?_ : jJ X g (r : Bool) (cx g q E S) 0 0 0 [(0, .ref (q 25)), (1, .int a1), (2, .int a2), (3, .int a3), (4, .int a4)] [] (f_X6_canBe S a1 a2 a3 a4)) h
  unfold f_X6_canBe
  refine r_iload_n (pc := 0) C dX6_canBe_0 1 rfl ?_
  refine r_iconst (pc := 1) C dX6_canBe_1 (v := 2) (by decide) ?_
  refine r_imul (pc := 2) C dX6_canBe_2 ?_
  refine r_iload_n (pc := 3) C dX6_canBe_3 2 rfl ?_
  refine r_iadd (pc := 4) C dX6_canBe_4 ?_
  refine r_istoreV (pc := 5) C dX6_canBe_5 (lv' := fun x1 => [(0, .ref (q 25)), (1, .int a1), (2, .int a2), (3, .int a3), (4, .int a4), (5, .int x1)]) (by decide) [1, 2, 3, 4, 5, 0] (fun _ => rfl) (fun x1 => ?_)
  refine r_iload (pc := 7) C dX6_canBe_7 5 rfl ?_
  refine r_if_lt 41 (pc := 9) C dX6_canBe_9 (by decide) ?_ ?_
  · refine r_iconst (pc := 41) C dX6_canBe_41 (v := 0) (by decide) ?_
    exact r_retPZ hR rfl (pc := 42) dX6_canBe_42
  · refine r_iload (pc := 12) C dX6_canBe_12 5 rfl ?_
    refine r_gs_2 (pc := 14) C kw_3_37 dX6_canBe_14 ?_
    refine r_sn_2 (pc := 17) C dX6_canBe_17 ?_
    refine r_icmp_ge 41 (pc := 18) C dX6_canBe_18 (by decide) ?_ ?_
    · refine r_iconst (pc := 41) C dX6_canBe_41 (v := 0) (by decide) ?_
      exact r_retPZ hR rfl (pc := 42) dX6_canBe_42
    · refine r_iload_n (pc := 21) C dX6_canBe_21 3 rfl ?_
      refine r_gs_2 (pc := 22) C kw_3_37 dX6_canBe_22 ?_
      refine r_iload (pc := 25) C dX6_canBe_25 5 rfl ?_
      refine r_sl_2 (pc := 27) C dX6_canBe_27 ?_
      refine r_icmp_lt 41 (pc := 28) C dX6_canBe_28 (by decide) ?_ ?_
      · refine r_iconst (pc := 41) C dX6_canBe_41 (v := 0) (by decide) ?_
        exact r_retPZ hR rfl (pc := 42) dX6_canBe_42
      · refine r_iload_n (pc := 31) C dX6_canBe_31 3 rfl ?_
        refine r_gs_3 (pc := 32) C kw_3_39 dX6_canBe_32 ?_
        refine r_iload (pc := 35) C dX6_canBe_35 5 rfl ?_
        refine r_sl_3 (pc := 37) C dX6_canBe_37 ?_
        refine r_icmp_le 43 (pc := 38) C dX6_canBe_38 (by decide) ?_ ?_
        · refine r_iload_n (pc := 43) C dX6_canBe_43 1 rfl ?_
          refine r_iconst (pc := 44) C dX6_canBe_44 (v := 3) (by decide) ?_
          refine r_icmp_ne 59 (pc := 45) C dX6_canBe_45 (by decide) ?_ ?_
          · refine r_iconst (pc := 59) C dX6_canBe_59 (v := 1) (by decide) ?_
            refine r_goto 64 (pc := 60) C dX6_canBe_60 (by decide) ?_
            exact r_retPZ hR rfl (pc := 64) dX6_canBe_64
          · refine r_aload_n (pc := 48) C dX6_canBe_48 0 rfl ?_
            refine r_iload_n (pc := 49) C dX6_canBe_49 2 rfl ?_
            refine r_iload_n (pc := 50) C dX6_canBe_50 3 rfl ?_
            refine r_iload (pc := 51) C dX6_canBe_51 4 rfl ?_
            refine r_cVpz (As := [.int a2, .int a3, .int a4]) (st := []) (pc := 53) C (fun _ h => c_X6_isToldAhead h) kY_X6_isToldAhead kw_3_43 kw_0_2 kw_3_41 rfl ⟨Nat.le_of_ble_eq_true rfl, Nat.le_of_ble_eq_true rfl⟩ rfl rfl ⟨Nat.zero_le _, Nat.zero_le _⟩ 25 rfl rfl rfl (Nat.le_of_ble_eq_true rfl) dX6_canBe_53 (fun x2 => ?_)
            refine r_ifb_eq 63 (pc := 56) C dX6_canBe_56 (by decide) ?_ ?_
            · refine r_iconst (pc := 63) C dX6_canBe_63 (v := 0) (by decide) ?_
              exact r_retPZ hR rfl (pc := 64) dX6_canBe_64
            · refine r_iconst (pc := 59) C dX6_canBe_59 (v := 1) (by decide) ?_
              refine r_goto 64 (pc := 60) C dX6_canBe_60 (by decide) ?_
              exact r_retPZ hR rfl (pc := 64) dX6_canBe_64
        · refine r_iconst (pc := 41) C dX6_canBe_41 (v := 0) (by decide) ?_
          exact r_retPZ hR rfl (pc := 42) dX6_canBe_42
