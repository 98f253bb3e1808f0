abbrev rm_X10_pass : Room := { frames := 1, cells := 0, slots := 0, locals := 20 }
theorem kY_X10_pass : kY yX10_pass cX10_pass 2 (some .boolean) 1 := ⟨kw_1_2, kw_3_56, by decide, by decide, by decide +kernel⟩
def f_X10_pass (S : CS) (a1 : Int32) : Option (Bool × CS) :=
  bp (f_X10_peek S) (fun x1 =>
  (if x1 = a1 then
  lt (ci S 2 ((S.1 2) + 1)) fun S2 =>
  some (true, S2)
 else
  bw (f_X10_failHere S) (fun x3 S4 =>
  some (x3, S4))))
set_option maxRecDepth 100000 in
set_option maxHeartbeats 4000000 in
theorem c_X10_pass {g : KG} {q : Nat → Nat} {E : va_W} {S : CS} {a1 : Int32} {r : Bool} {S' : CS} (h : f_X10_pass S a1 = some (r, S')) : ∀ l, kM l yX10_pass cX10_pass 2 (some .boolean) rm_X10_pass g [.ref (q 1), .int a1] (cx g q E S) (cx g q E S') (some (.int (b2 r))) 0 0 := by
  refine k_open_z (own := "MarkChains$Tape") (by decide) rfl (Nat.le_of_ble_eq_true rfl) (fun X C hR => ?_)
  refine (?_ : jJ X g ((r, S') : Bool × CS) (cx g q E S) 0 0 0 [(0, .ref (q 1)), (1, .int a1)] [] (f_X10_pass S a1)) h
  unfold f_X10_pass
  refine r_aload_n (pc := 0) C dX10_pass_0 0 rfl ?_
  refine r_cVpi (As := []) (st := []) (pc := 1) C (fun _ h => c_X10_peek h) kY_X10_peek kw_2_152 kw_2_153 kw_3_23 rfl ⟨Nat.le_of_ble_eq_true rfl, Nat.le_of_ble_eq_true rfl⟩ rfl rfl ⟨Nat.zero_le _, Nat.zero_le _⟩ 1 rfl rfl rfl (Nat.le_of_ble_eq_true rfl) dX10_pass_1 (fun x1 => ?_)
  refine r_iload_n (pc := 4) C dX10_pass_4 1 rfl ?_
  refine r_icmp_eq 13 (pc := 5) C dX10_pass_5 (by decide) ?_ ?_
  · refine r_aload_n (pc := 13) C dX10_pass_13 0 rfl ?_
    refine r_dup (pc := 14) C dX10_pass_14 rfl ?_
    refine xg_tp_place (pc := 15) C kw_1_39 dX10_pass_15 ?_
    refine r_iconst (pc := 18) C dX10_pass_18 (v := 1) (by decide) ?_
    refine r_iadd (pc := 19) C dX10_pass_19 ?_
    refine xp_tp_place (pc := 20) C kw_1_39 dX10_pass_20 (fun S2 => ?_)
    refine r_iconst (pc := 23) C dX10_pass_23 (v := 1) (by decide) ?_
    exact r_retWZ hR rfl (pc := 24) dX10_pass_24
  · refine r_aload_n (pc := 8) C dX10_pass_8 0 rfl ?_
    refine r_cVwz (As := []) (st := []) (wf := cx g q E) (pc := 9) C (fun _ _ h => c_X10_failHere h) kY_X10_failHere kw_3_12 kw_3_13 kw_3_32 rfl ⟨Nat.le_of_ble_eq_true rfl, Nat.le_of_ble_eq_true rfl⟩ rfl rfl ⟨Nat.zero_le _, Nat.zero_le _⟩ 1 rfl rfl rfl (Nat.le_of_ble_eq_true rfl) dX10_pass_9 (fun x3 S4 => ?_)
    exact r_retWZ hR rfl (pc := 12) dX10_pass_12
set_option maxRecDepth 100000 in
theorem w_X10_pass {S : CS} {a1 : Int32} {r : Bool} {S' : CS} (h : f_X10_pass S a1 = some (r, S')) : gI [2, 5] [] S S' := by
  have hS : gI [2, 5] [] S S := gI_rf
  refine (?_ : jf (gI [2, 5] [] S) Prod.snd (f_X10_pass S a1)) _ h
  unfold f_X10_pass
  refine f_bp (fun x1 => ?_)
  refine f_ite ?_ ?_
  · refine f_ltS (gI_ci hS (by decide)) (fun S2 hS2 => ?_)
    exact f_some hS2
  · refine f_bwS (fun _ _ h => gI_tr hS (w_X10_failHere h) (by decide) (by decide)) (fun x3 S4 hS4 => ?_)
    exact f_some hS4
abbrev rm_X8_draft_pe : Room := { frames := 1, cells := 0, slots := 0, locals := 20 }
theorem kY_X8_draft : kY yX8_draft cX8_draft 3 none 2 := ⟨kw_1_4, kw_3_64, by decide, by decide, by decide +kernel⟩
def f_X8_draft_pe (S : CS) (a1 : Int32) (a2 : Int32) : Option (CS) :=
  bp (f_X8_isFull_pe S) (fun x1 =>
  (if x1 = true then
  some S
 else
  (if a1 = 0 then
  chk (S.1 7) 6 (lt (ca S 5 (upd (S.2.1 5) (S.1 7).toNatClampNeg a2)) fun S3 =>
  some S3)
 else
  chk (S.1 7) 6 (lt (ca S 6 (upd (S.2.1 6) (S.1 7).toNatClampNeg a2)) fun S2 =>
  some S2))))
set_option maxRecDepth 100000 in
set_option maxHeartbeats 4000000 in
theorem c_X8_draft_pe {g : KG} {q : Nat → Nat} {E : va_W} {S : CS} {a1 : Int32} {a2 : Int32} {S' : CS} (h : f_X8_draft_pe S a1 a2 = some S') : ∀ l, kM l yX8_draft cX8_draft 3 none rm_X8_draft_pe g [.ref (q 4), .int a1, .int a2] (cx g q E S) (cx g q E S') (none) 0 0 := by
  refine k_open_v (own := "MarkChains$Pairs") (by decide) rfl (Nat.le_of_ble_eq_true rfl) (fun X C hR => ?_)
  refine (?_ : jJ X g (S' : CS) (cx g q E S) 0 0 0 [(0, .ref (q 4)), (1, .int a1), (2, .int a2)] [] (f_X8_draft_pe S a1 a2)) h
  unfold f_X8_draft_pe
  refine r_aload_n (pc := 0) C dX8_draft_0 0 rfl ?_
  refine r_cVpz (As := []) (st := []) (pc := 1) C (fun _ h => c_X8_isFull_pe h) kY_X8_isFull kw_3_8 kw_3_9 kw_3_65 rfl ⟨Nat.le_of_ble_eq_true rfl, Nat.le_of_ble_eq_true rfl⟩ rfl rfl ⟨Nat.zero_le _, Nat.zero_le _⟩ 4 rfl rfl rfl (Nat.le_of_ble_eq_true rfl) dX8_draft_1 (fun x1 => ?_)
  refine r_ifb_eq 8 (pc := 4) C dX8_draft_4 (by decide) ?_ ?_
  · refine r_iload_n (pc := 8) C dX8_draft_8 1 rfl ?_
    refine r_if_ne 25 (pc := 9) C dX8_draft_9 (by decide) ?_ ?_
    · refine r_aload_n (pc := 25) C dX8_draft_25 0 rfl ?_
      refine xg_pe_second (pc := 26) C kw_1_79 dX8_draft_26 ?_
      refine r_aload_n (pc := 29) C dX8_draft_29 0 rfl ?_
      refine xg_pe_size (pc := 30) C kw_1_82 dX8_draft_30 ?_
      refine r_iload_n (pc := 33) C dX8_draft_33 2 rfl ?_
      refine xs_pe_second (pc := 34) C dX8_draft_34 (fun S2 => ?_)
      exact r_retWV (wf := cx g q E) hR (pc := 35) dX8_draft_35
    · refine r_aload_n (pc := 12) C dX8_draft_12 0 rfl ?_
      refine xg_pe_first (pc := 13) C kw_1_76 dX8_draft_13 ?_
      refine r_aload_n (pc := 16) C dX8_draft_16 0 rfl ?_
      refine xg_pe_size (pc := 17) C kw_1_82 dX8_draft_17 ?_
      refine r_iload_n (pc := 20) C dX8_draft_20 2 rfl ?_
      refine xs_pe_first (pc := 21) C dX8_draft_21 (fun S3 => ?_)
      refine r_goto 35 (pc := 22) C dX8_draft_22 (by decide) ?_
      exact r_retWV (wf := cx g q E) hR (pc := 35) dX8_draft_35
  · exact r_retWV (wf := cx g q E) hR (pc := 7) dX8_draft_7
set_option maxRecDepth 100000 in
theorem w_X8_draft_pe {S : CS} {a1 : Int32} {a2 : Int32} {S' : CS} (h : f_X8_draft_pe S a1 a2 = some S') : gI [] [5, 6] S S' := by
  have hS : gI [] [5, 6] S S := gI_rf
  refine (?_ : jf (gI [] [5, 6] S) id (f_X8_draft_pe S a1 a2)) _ h
  unfold f_X8_draft_pe
  refine f_bp (fun x1 => ?_)
  refine f_ite ?_ ?_
  · exact f_some hS
  · refine f_ite ?_ ?_
    · refine f_chk (f_ltS (gI_ca hS (by decide)) (fun S3 hS3 => ?_))
      exact f_some hS3
    · refine f_chk (f_ltS (gI_ca hS (by decide)) (fun S2 hS2 => ?_))
      exact f_some hS2
abbrev rm_X8_draft_pp : Room := { frames := 1, cells := 0, slots := 0, locals := 20 }
def f_X8_draft_pp (S : CS) (a1 : Int32) (a2 : Int32) : Option (CS) :=
  bp (f_X8_isFull_pp S) (fun x1 =>
  (if x1 = true then
  some S
 else
  (if a1 = 0 then
  chk (S.1 8) 8 (lt (ca S 8 (upd (S.2.1 8) (S.1 8).toNatClampNeg a2)) fun S3 =>
  some S3)
 else
  chk (S.1 8) 8 (lt (ca S 9 (upd (S.2.1 9) (S.1 8).toNatClampNeg a2)) fun S2 =>
  some S2))))
set_option maxRecDepth 100000 in
set_option maxHeartbeats 4000000 in
theorem c_X8_draft_pp {g : KG} {q : Nat → Nat} {E : va_W} {S : CS} {a1 : Int32} {a2 : Int32} {S' : CS} (h : f_X8_draft_pp S a1 a2 = some S') : ∀ l, kM l yX8_draft cX8_draft 3 none rm_X8_draft_pp g [.ref (q 7), .int a1, .int a2] (cx g q E S) (cx g q E S') (none) 0 0 := by
  refine k_open_v (own := "MarkChains$Pairs") (by decide) rfl (Nat.le_of_ble_eq_true rfl) (fun X C hR => ?_)
  refine (?_ : jJ X g (S' : CS) (cx g q E S) 0 0 0 [(0, .ref (q 7)), (1, .int a1), (2, .int a2)] [] (f_X8_draft_pp S a1 a2)) h
  unfold f_X8_draft_pp
  refine r_aload_n (pc := 0) C dX8_draft_0 0 rfl ?_
  refine r_cVpz (As := []) (st := []) (pc := 1) C (fun _ h => c_X8_isFull_pp h) kY_X8_isFull kw_3_8 kw_3_9 kw_3_65 rfl ⟨Nat.le_of_ble_eq_true rfl, Nat.le_of_ble_eq_true rfl⟩ rfl rfl ⟨Nat.zero_le _, Nat.zero_le _⟩ 7 rfl rfl rfl (Nat.le_of_ble_eq_true rfl) dX8_draft_1 (fun x1 => ?_)
  refine r_ifb_eq 8 (pc := 4) C dX8_draft_4 (by decide) ?_ ?_
  · refine r_iload_n (pc := 8) C dX8_draft_8 1 rfl ?_
    refine r_if_ne 25 (pc := 9) C dX8_draft_9 (by decide) ?_ ?_
    · refine r_aload_n (pc := 25) C dX8_draft_25 0 rfl ?_
      refine xg_pp_second (pc := 26) C kw_1_79 dX8_draft_26 ?_
      refine r_aload_n (pc := 29) C dX8_draft_29 0 rfl ?_
      refine xg_pp_size (pc := 30) C kw_1_82 dX8_draft_30 ?_
      refine r_iload_n (pc := 33) C dX8_draft_33 2 rfl ?_
      refine xs_pp_second (pc := 34) C dX8_draft_34 (fun S2 => ?_)
      exact r_retWV (wf := cx g q E) hR (pc := 35) dX8_draft_35
    · refine r_aload_n (pc := 12) C dX8_draft_12 0 rfl ?_
      refine xg_pp_first (pc := 13) C kw_1_76 dX8_draft_13 ?_
      refine r_aload_n (pc := 16) C dX8_draft_16 0 rfl ?_
      refine xg_pp_size (pc := 17) C kw_1_82 dX8_draft_17 ?_
      refine r_iload_n (pc := 20) C dX8_draft_20 2 rfl ?_
      refine xs_pp_first (pc := 21) C dX8_draft_21 (fun S3 => ?_)
      refine r_goto 35 (pc := 22) C dX8_draft_22 (by decide) ?_
      exact r_retWV (wf := cx g q E) hR (pc := 35) dX8_draft_35
  · exact r_retWV (wf := cx g q E) hR (pc := 7) dX8_draft_7
set_option maxRecDepth 100000 in
theorem w_X8_draft_pp {S : CS} {a1 : Int32} {a2 : Int32} {S' : CS} (h : f_X8_draft_pp S a1 a2 = some S') : gI [] [8, 9] S S' := by
  have hS : gI [] [8, 9] S S := gI_rf
  refine (?_ : jf (gI [] [8, 9] S) id (f_X8_draft_pp S a1 a2)) _ h
  unfold f_X8_draft_pp
  refine f_bp (fun x1 => ?_)
  refine f_ite ?_ ?_
  · exact f_some hS
  · refine f_ite ?_ ?_
    · refine f_chk (f_ltS (gI_ca hS (by decide)) (fun S3 hS3 => ?_))
      exact f_some hS3
    · refine f_chk (f_ltS (gI_ca hS (by decide)) (fun S2 hS2 => ?_))
      exact f_some hS2
abbrev rm_X8_draft_pa : Room := { frames := 1, cells := 0, slots := 0, locals := 20 }
def f_X8_draft_pa (S : CS) (a1 : Int32) (a2 : Int32) : Option (CS) :=
  bp (f_X8_isFull_pa S) (fun x1 =>
  (if x1 = true then
  some S
 else
  (if a1 = 0 then
  chk (S.1 9) 16 (lt (ca S 11 (upd (S.2.1 11) (S.1 9).toNatClampNeg a2)) fun S3 =>
  some S3)
 else
  chk (S.1 9) 16 (lt (ca S 12 (upd (S.2.1 12) (S.1 9).toNatClampNeg a2)) fun S2 =>
  some S2))))
set_option maxRecDepth 100000 in
set_option maxHeartbeats 4000000 in
theorem c_X8_draft_pa {g : KG} {q : Nat → Nat} {E : va_W} {S : CS} {a1 : Int32} {a2 : Int32} {S' : CS} (h : f_X8_draft_pa S a1 a2 = some S') : ∀ l, kM l yX8_draft cX8_draft 3 none rm_X8_draft_pa g [.ref (q 10), .int a1, .int a2] (cx g q E S) (cx g q E S') (none) 0 0 := by
  refine k_open_v (own := "MarkChains$Pairs") (by decide) rfl (Nat.le_of_ble_eq_true rfl) (fun X C hR => ?_)
  refine (?_ : jJ X g (S' : CS) (cx g q E S) 0 0 0 [(0, .ref (q 10)), (1, .int a1), (2, .int a2)] [] (f_X8_draft_pa S a1 a2)) h
  unfold f_X8_draft_pa
  refine r_aload_n (pc := 0) C dX8_draft_0 0 rfl ?_
  refine r_cVpz (As := []) (st := []) (pc := 1) C (fun _ h => c_X8_isFull_pa h) kY_X8_isFull kw_3_8 kw_3_9 kw_3_65 rfl ⟨Nat.le_of_ble_eq_true rfl, Nat.le_of_ble_eq_true rfl⟩ rfl rfl ⟨Nat.zero_le _, Nat.zero_le _⟩ 10 rfl rfl rfl (Nat.le_of_ble_eq_true rfl) dX8_draft_1 (fun x1 => ?_)
  refine r_ifb_eq 8 (pc := 4) C dX8_draft_4 (by decide) ?_ ?_
  · refine r_iload_n (pc := 8) C dX8_draft_8 1 rfl ?_
    refine r_if_ne 25 (pc := 9) C dX8_draft_9 (by decide) ?_ ?_
    · refine r_aload_n (pc := 25) C dX8_draft_25 0 rfl ?_
      refine xg_pa_second (pc := 26) C kw_1_79 dX8_draft_26 ?_
      refine r_aload_n (pc := 29) C dX8_draft_29 0 rfl ?_
      refine xg_pa_size (pc := 30) C kw_1_82 dX8_draft_30 ?_
      refine r_iload_n (pc := 33) C dX8_draft_33 2 rfl ?_
      refine xs_pa_second (pc := 34) C dX8_draft_34 (fun S2 => ?_)
      exact r_retWV (wf := cx g q E) hR (pc := 35) dX8_draft_35
    · refine r_aload_n (pc := 12) C dX8_draft_12 0 rfl ?_
      refine xg_pa_first (pc := 13) C kw_1_76 dX8_draft_13 ?_
      refine r_aload_n (pc := 16) C dX8_draft_16 0 rfl ?_
      refine xg_pa_size (pc := 17) C kw_1_82 dX8_draft_17 ?_
      refine r_iload_n (pc := 20) C dX8_draft_20 2 rfl ?_
      refine xs_pa_first (pc := 21) C dX8_draft_21 (fun S3 => ?_)
      refine r_goto 35 (pc := 22) C dX8_draft_22 (by decide) ?_
      exact r_retWV (wf := cx g q E) hR (pc := 35) dX8_draft_35
  · exact r_retWV (wf := cx g q E) hR (pc := 7) dX8_draft_7
set_option maxRecDepth 100000 in
theorem w_X8_draft_pa {S : CS} {a1 : Int32} {a2 : Int32} {S' : CS} (h : f_X8_draft_pa S a1 a2 = some S') : gI [] [11, 12] S S' := by
  have hS : gI [] [11, 12] S S := gI_rf
  refine (?_ : jf (gI [] [11, 12] S) id (f_X8_draft_pa S a1 a2)) _ h
  unfold f_X8_draft_pa
  refine f_bp (fun x1 => ?_)
  refine f_ite ?_ ?_
  · exact f_some hS
  · refine f_ite ?_ ?_
    · refine f_chk (f_ltS (gI_ca hS (by decide)) (fun S3 hS3 => ?_))
      exact f_some hS3
    · refine f_chk (f_ltS (gI_ca hS (by decide)) (fun S2 hS2 => ?_))
      exact f_some hS2
abbrev rm_X1_draftMark : Room := { frames := 0, cells := 0, slots := 0, locals := 0 }
theorem kY_X1_draftMark : kY yX1_draftMark cX1_draftMark 3 none 2 := ⟨kw_1_3, kw_3_69, by decide, by decide, by decide +kernel⟩
def f_X1_draftMark (S : CS) (a1 : Int32) (a2 : Int32) : Option (CS) :=
  (if a1 = 0 then
  chk (S.1 6) 60 (lt (ca S 13 (upd (S.2.1 13) (S.1 6).toNatClampNeg a2)) fun S1 =>
  some S1)
 else
  (if a1 = 1 then
  chk (S.1 6) 60 (lt (ca S 14 (upd (S.2.1 14) (S.1 6).toNatClampNeg a2)) fun S2 =>
  some S2)
 else
  (if a1 = 2 then
  chk (S.1 6) 60 (lt (ca S 15 (upd (S.2.1 15) (S.1 6).toNatClampNeg a2)) fun S3 =>
  some S3)
 else
  (if a1 = 3 then
  chk (S.1 6) 60 (lt (ca S 16 (upd (S.2.1 16) (S.1 6).toNatClampNeg a2)) fun S4 =>
  some S4)
 else
  (if a1 = 4 then
  chk (S.1 6) 60 (lt (ca S 17 (upd (S.2.1 17) (S.1 6).toNatClampNeg a2)) fun S5 =>
  some S5)
 else
  (if a1 = 5 then
  chk (S.1 6) 60 (lt (ca S 18 (upd (S.2.1 18) (S.1 6).toNatClampNeg a2)) fun S6 =>
  some S6)
 else
  (if a1 = 6 then
  chk (S.1 6) 60 (lt (ca S 19 (upd (S.2.1 19) (S.1 6).toNatClampNeg a2)) fun S7 =>
  some S7)
 else
  (if a1 = 7 then
  chk (S.1 6) 60 (lt (ca S 20 (upd (S.2.1 20) (S.1 6).toNatClampNeg a2)) fun S8 =>
  some S8)
 else
  chk (S.1 6) 60 (lt (ca S 21 (upd (S.2.1 21) (S.1 6).toNatClampNeg a2)) fun S9 =>
  some S9)))))))))
set_option maxRecDepth 100000 in
set_option maxHeartbeats 4000000 in
theorem c_X1_draftMark {g : KG} {q : Nat → Nat} {E : va_W} {S : CS} {a1 : Int32} {a2 : Int32} {S' : CS} (h : f_X1_draftMark S a1 a2 = some S') : ∀ l, kM l yX1_draftMark cX1_draftMark 3 none rm_X1_draftMark g [.ref (q 3), .int a1, .int a2] (cx g q E S) (cx g q E S') (none) 0 0 := by
  refine k_open_v (own := "MarkChains$Book") (by decide) rfl (Nat.le_of_ble_eq_true rfl) (fun X C hR => ?_)
  refine (?_ : jJ X g (S' : CS) (cx g q E S) 0 0 0 [(0, .ref (q 3)), (1, .int a1), (2, .int a2)] [] (f_X1_draftMark S a1 a2)) h
  unfold f_X1_draftMark
  refine r_iload_n (pc := 0) C dX1_draftMark_0 1 rfl ?_
  refine r_case (fun h1_0 => ?_) (fun h1_0 => ?_)
  · refine r_tabIn (off := 47) 48 (pc := 1) C dX1_draftMark_1 h1_0 (by decide) (by decide) (by decide) (by decide) ?_
    refine r_aload_n (pc := 48) C dX1_draftMark_48 0 rfl ?_
    refine xg_bk_event (pc := 49) C kw_1_101 dX1_draftMark_49 ?_
    refine r_aload_n (pc := 52) C dX1_draftMark_52 0 rfl ?_
    refine xg_bk_size (pc := 53) C kw_1_125 dX1_draftMark_53 ?_
    refine r_iload_n (pc := 56) C dX1_draftMark_56 2 rfl ?_
    refine xs_bk_event (pc := 57) C dX1_draftMark_57 (fun S1 => ?_)
    refine r_goto 162 (pc := 58) C dX1_draftMark_58 (by decide) ?_
    exact r_retWV (wf := cx g q E) hR (pc := 162) dX1_draftMark_162
  · refine r_case (fun h1_1 => ?_) (fun h1_1 => ?_)
    · refine r_tabIn (off := 60) 61 (pc := 1) C dX1_draftMark_1 h1_1 (by decide) (by decide) (by decide) (by decide) ?_
      refine r_aload_n (pc := 61) C dX1_draftMark_61 0 rfl ?_
      refine xg_bk_athlete (pc := 62) C kw_1_103 dX1_draftMark_62 ?_
      refine r_aload_n (pc := 65) C dX1_draftMark_65 0 rfl ?_
      refine xg_bk_size (pc := 66) C kw_1_125 dX1_draftMark_66 ?_
      refine r_iload_n (pc := 69) C dX1_draftMark_69 2 rfl ?_
      refine xs_bk_athlete (pc := 70) C dX1_draftMark_70 (fun S2 => ?_)
      refine r_goto 162 (pc := 71) C dX1_draftMark_71 (by decide) ?_
      exact r_retWV (wf := cx g q E) hR (pc := 162) dX1_draftMark_162
    · refine r_case (fun h1_2 => ?_) (fun h1_2 => ?_)
      · refine r_tabIn (off := 73) 74 (pc := 1) C dX1_draftMark_1 h1_2 (by decide) (by decide) (by decide) (by decide) ?_
        refine r_aload_n (pc := 74) C dX1_draftMark_74 0 rfl ?_
        refine xg_bk_place (pc := 75) C kw_1_106 dX1_draftMark_75 ?_
        refine r_aload_n (pc := 78) C dX1_draftMark_78 0 rfl ?_
        refine xg_bk_size (pc := 79) C kw_1_125 dX1_draftMark_79 ?_
        refine r_iload_n (pc := 82) C dX1_draftMark_82 2 rfl ?_
        refine xs_bk_place (pc := 83) C dX1_draftMark_83 (fun S3 => ?_)
        refine r_goto 162 (pc := 84) C dX1_draftMark_84 (by decide) ?_
        exact r_retWV (wf := cx g q E) hR (pc := 162) dX1_draftMark_162
      · refine r_case (fun h1_3 => ?_) (fun h1_3 => ?_)
        · refine r_tabIn (off := 86) 87 (pc := 1) C dX1_draftMark_1 h1_3 (by decide) (by decide) (by decide) (by decide) ?_
          refine r_aload_n (pc := 87) C dX1_draftMark_87 0 rfl ?_
          refine xg_bk_day (pc := 88) C kw_1_107 dX1_draftMark_88 ?_
          refine r_aload_n (pc := 91) C dX1_draftMark_91 0 rfl ?_
          refine xg_bk_size (pc := 92) C kw_1_125 dX1_draftMark_92 ?_
          refine r_iload_n (pc := 95) C dX1_draftMark_95 2 rfl ?_
          refine xs_bk_day (pc := 96) C dX1_draftMark_96 (fun S4 => ?_)
          refine r_goto 162 (pc := 97) C dX1_draftMark_97 (by decide) ?_
          exact r_retWV (wf := cx g q E) hR (pc := 162) dX1_draftMark_162
        · refine r_case (fun h1_4 => ?_) (fun h1_4 => ?_)
          · refine r_tabIn (off := 99) 100 (pc := 1) C dX1_draftMark_1 h1_4 (by decide) (by decide) (by decide) (by decide) ?_
            refine r_aload_n (pc := 100) C dX1_draftMark_100 0 rfl ?_
            refine xg_bk_minute (pc := 101) C kw_1_110 dX1_draftMark_101 ?_
            refine r_aload_n (pc := 104) C dX1_draftMark_104 0 rfl ?_
            refine xg_bk_size (pc := 105) C kw_1_125 dX1_draftMark_105 ?_
            refine r_iload_n (pc := 108) C dX1_draftMark_108 2 rfl ?_
            refine xs_bk_minute (pc := 109) C dX1_draftMark_109 (fun S5 => ?_)
            refine r_goto 162 (pc := 110) C dX1_draftMark_110 (by decide) ?_
            exact r_retWV (wf := cx g q E) hR (pc := 162) dX1_draftMark_162
          · refine r_case (fun h1_5 => ?_) (fun h1_5 => ?_)
            · refine r_tabIn (off := 112) 113 (pc := 1) C dX1_draftMark_1 h1_5 (by decide) (by decide) (by decide) (by decide) ?_
              refine r_aload_n (pc := 113) C dX1_draftMark_113 0 rfl ?_
              refine xg_bk_value (pc := 114) C kw_1_112 dX1_draftMark_114 ?_
              refine r_aload_n (pc := 117) C dX1_draftMark_117 0 rfl ?_
              refine xg_bk_size (pc := 118) C kw_1_125 dX1_draftMark_118 ?_
              refine r_iload_n (pc := 121) C dX1_draftMark_121 2 rfl ?_
              refine xs_bk_value (pc := 122) C dX1_draftMark_122 (fun S6 => ?_)
              refine r_goto 162 (pc := 123) C dX1_draftMark_123 (by decide) ?_
              exact r_retWV (wf := cx g q E) hR (pc := 162) dX1_draftMark_162
            · refine r_case (fun h1_6 => ?_) (fun h1_6 => ?_)
              · refine r_tabIn (off := 125) 126 (pc := 1) C dX1_draftMark_1 h1_6 (by decide) (by decide) (by decide) (by decide) ?_
                refine r_aload_n (pc := 126) C dX1_draftMark_126 0 rfl ?_
                refine xg_bk_wind (pc := 127) C kw_1_115 dX1_draftMark_127 ?_
                refine r_aload_n (pc := 130) C dX1_draftMark_130 0 rfl ?_
                refine xg_bk_size (pc := 131) C kw_1_125 dX1_draftMark_131 ?_
                refine r_iload_n (pc := 134) C dX1_draftMark_134 2 rfl ?_
                refine xs_bk_wind (pc := 135) C dX1_draftMark_135 (fun S7 => ?_)
                refine r_goto 162 (pc := 136) C dX1_draftMark_136 (by decide) ?_
                exact r_retWV (wf := cx g q E) hR (pc := 162) dX1_draftMark_162
              · refine r_case (fun h1_7 => ?_) (fun h1_7 => ?_)
                · refine r_tabIn (off := 138) 139 (pc := 1) C dX1_draftMark_1 h1_7 (by decide) (by decide) (by decide) (by decide) ?_
                  refine r_aload_n (pc := 139) C dX1_draftMark_139 0 rfl ?_
                  refine xg_bk_shoe (pc := 140) C kw_1_116 dX1_draftMark_140 ?_
                  refine r_aload_n (pc := 143) C dX1_draftMark_143 0 rfl ?_
                  refine xg_bk_size (pc := 144) C kw_1_125 dX1_draftMark_144 ?_
                  refine r_iload_n (pc := 147) C dX1_draftMark_147 2 rfl ?_
                  refine xs_bk_shoe (pc := 148) C dX1_draftMark_148 (fun S8 => ?_)
                  refine r_goto 162 (pc := 149) C dX1_draftMark_149 (by decide) ?_
                  exact r_retWV (wf := cx g q E) hR (pc := 162) dX1_draftMark_162
                · refine r_tabDef 152 (pc := 1) C dX1_draftMark_1 (by decide) (fun j hj => ?_) (by decide) ?_
                  · match j, hj with
                    | 0, _ => exact Or.inr (lv_neT h1_0 (by decide))
                    | 1, _ => exact Or.inr (lv_neT h1_1 (by decide))
                    | 2, _ => exact Or.inr (lv_neT h1_2 (by decide))
                    | 3, _ => exact Or.inr (lv_neT h1_3 (by decide))
                    | 4, _ => exact Or.inr (lv_neT h1_4 (by decide))
                    | 5, _ => exact Or.inr (lv_neT h1_5 (by decide))
                    | 6, _ => exact Or.inr (lv_neT h1_6 (by decide))
                    | 7, _ => exact Or.inr (lv_neT h1_7 (by decide))
                    | j + 8, hj => exact absurd hj (by simp)
                  · refine r_aload_n (pc := 152) C dX1_draftMark_152 0 rfl ?_
                    refine xg_bk_papers (pc := 153) C kw_1_117 dX1_draftMark_153 ?_
                    refine r_aload_n (pc := 156) C dX1_draftMark_156 0 rfl ?_
                    refine xg_bk_size (pc := 157) C kw_1_125 dX1_draftMark_157 ?_
                    refine r_iload_n (pc := 160) C dX1_draftMark_160 2 rfl ?_
                    refine xs_bk_papers (pc := 161) C dX1_draftMark_161 (fun S9 => ?_)
                    exact r_retWV (wf := cx g q E) hR (pc := 162) dX1_draftMark_162
set_option maxRecDepth 100000 in
theorem w_X1_draftMark {S : CS} {a1 : Int32} {a2 : Int32} {S' : CS} (h : f_X1_draftMark S a1 a2 = some S') : gI [] [13, 14, 15, 16, 17, 18, 19, 20, 21] S S' := by
  have hS : gI [] [13, 14, 15, 16, 17, 18, 19, 20, 21] S S := gI_rf
  refine (?_ : jf (gI [] [13, 14, 15, 16, 17, 18, 19, 20, 21] S) id (f_X1_draftMark S a1 a2)) _ h
  unfold f_X1_draftMark
  refine f_ite ?_ ?_
  · refine f_chk (f_ltS (gI_ca hS (by decide)) (fun S1 hS1 => ?_))
    exact f_some hS1
  · refine f_ite ?_ ?_
    · refine f_chk (f_ltS (gI_ca hS (by decide)) (fun S2 hS2 => ?_))
      exact f_some hS2
    · refine f_ite ?_ ?_
      · refine f_chk (f_ltS (gI_ca hS (by decide)) (fun S3 hS3 => ?_))
        exact f_some hS3
      · refine f_ite ?_ ?_
        · refine f_chk (f_ltS (gI_ca hS (by decide)) (fun S4 hS4 => ?_))
          exact f_some hS4
        · refine f_ite ?_ ?_
          · refine f_chk (f_ltS (gI_ca hS (by decide)) (fun S5 hS5 => ?_))
            exact f_some hS5
          · refine f_ite ?_ ?_
            · refine f_chk (f_ltS (gI_ca hS (by decide)) (fun S6 hS6 => ?_))
              exact f_some hS6
            · refine f_ite ?_ ?_
              · refine f_chk (f_ltS (gI_ca hS (by decide)) (fun S7 hS7 => ?_))
                exact f_some hS7
              · refine f_ite ?_ ?_
                · refine f_chk (f_ltS (gI_ca hS (by decide)) (fun S8 hS8 => ?_))
                  exact f_some hS8
                · refine f_chk (f_ltS (gI_ca hS (by decide)) (fun S9 hS9 => ?_))
                  exact f_some hS9
abbrev rm_X1_draft : Room := { frames := 2, cells := 0, slots := 0, locals := 42 }
theorem kY_X1_draft : kY yX1_draft cX1_draft 5 none 3 := ⟨kw_1_3, kw_3_60, by decide, by decide, by decide +kernel⟩
def f_X1_draft (S : CS) (a1 : Int32) (a2 : Int32) (a3 : Int32) : Option (CS) :=
  (if a1 = 0 then
  bp (f_X8_draft_pe S a2 a3) (fun S1 =>
  some S1)
 else (if a1 = 1 then
  bp (f_X8_draft_pp S a2 a3) (fun S2 =>
  some S2)
 else (if a1 = 2 then
  bp (f_X8_draft_pa S a2 a3) (fun S3 =>
  some S3)
 else
  (if 60 ≤ (S.1 6) then
  some S
 else
  bp (f_X1_draftMark S a2 a3) (fun S4 =>
  some S4)))))
set_option maxRecDepth 100000 in
set_option maxHeartbeats 4000000 in
theorem c_X1_draft {g : KG} {q : Nat → Nat} {E : va_W} {S : CS} {a1 : Int32} {a2 : Int32} {a3 : Int32} {S' : CS} (h : f_X1_draft S a1 a2 a3 = some S') : ∀ l, kM l yX1_draft cX1_draft 5 none rm_X1_draft g [.ref (q 3), .int a1, .int a2, .int a3] (cx g q E S) (cx g q E S') (none) 0 0 := by
  refine k_open_v (own := "MarkChains$Book") (by decide) rfl (Nat.le_of_ble_eq_true rfl) (fun X C hR => ?_)
  refine (?_ : jJ X g (S' : CS) (cx g q E S) 0 0 0 [(0, .ref (q 3)), (1, .int a1), (2, .int a2), (3, .int a3)] [] (f_X1_draft S a1 a2 a3)) h
  unfold f_X1_draft
  refine r_aload_n (pc := 0) C dX1_draft_0 0 rfl ?_
  refine r_iload_n (pc := 1) C dX1_draft_1 1 rfl ?_
  refine r_case (fun h2_0 => ?_) (fun h2_0 => ?_)
  · refine r_cVpr (As := [.int a1]) (st := []) (pc := 2) C (c_X1_pairsOf_0 h2_0) kY_X1_pairsOf kw_3_4 kw_3_5 kw_3_3 rfl ⟨Nat.le_of_ble_eq_true rfl, Nat.le_of_ble_eq_true rfl⟩ rfl rfl ⟨Nat.zero_le _, Nat.zero_le _⟩ 3 rfl rfl rfl (Nat.le_of_ble_eq_true rfl) dX1_draft_2 ?_
    refine r_astore (pc := 5) C dX1_draft_5 (lv' := [(0, .ref (q 3)), (1, .int a1), (2, .int a2), (3, .int a3), (4, .ref (q 4))]) (by decide) [1, 2, 3, 4, 0] rfl ?_
    refine r_aload (pc := 7) C dX1_draft_7 4 rfl ?_
    refine r_ifnullR (pc := 9) C dX1_draft_9 ?_
    refine r_aload (pc := 12) C dX1_draft_12 4 rfl ?_
    refine r_iload_n (pc := 14) C dX1_draft_14 2 rfl ?_
    refine r_iload_n (pc := 15) C dX1_draft_15 3 rfl ?_
    refine r_cVwv (As := [.int a2, .int a3]) (st := []) (wf := cx g q E) (pc := 16) C (fun _ h => c_X8_draft_pe h) kY_X8_draft kw_3_62 kw_3_63 kw_3_61 rfl ⟨Nat.le_of_ble_eq_true rfl, Nat.le_of_ble_eq_true rfl⟩ rfl rfl ⟨Nat.zero_le _, Nat.zero_le _⟩ 4 rfl rfl rfl (Nat.le_of_ble_eq_true rfl) dX1_draft_16 (fun S1 => ?_)
    refine r_goto 37 (pc := 19) C dX1_draft_19 (by decide) ?_
    exact r_retWV (wf := cx g q E) hR (pc := 37) dX1_draft_37
  · refine r_case (fun h2_1 => ?_) (fun h2_1 => ?_)
    · refine r_cVpr (As := [.int a1]) (st := []) (pc := 2) C (c_X1_pairsOf_1 h2_1) kY_X1_pairsOf kw_3_4 kw_3_5 kw_3_3 rfl ⟨Nat.le_of_ble_eq_true rfl, Nat.le_of_ble_eq_true rfl⟩ rfl rfl ⟨Nat.zero_le _, Nat.zero_le _⟩ 3 rfl rfl rfl (Nat.le_of_ble_eq_true rfl) dX1_draft_2 ?_
      refine r_astore (pc := 5) C dX1_draft_5 (lv' := [(0, .ref (q 3)), (1, .int a1), (2, .int a2), (3, .int a3), (4, .ref (q 7))]) (by decide) [1, 2, 3, 4, 0] rfl ?_
      refine r_aload (pc := 7) C dX1_draft_7 4 rfl ?_
      refine r_ifnullR (pc := 9) C dX1_draft_9 ?_
      refine r_aload (pc := 12) C dX1_draft_12 4 rfl ?_
      refine r_iload_n (pc := 14) C dX1_draft_14 2 rfl ?_
      refine r_iload_n (pc := 15) C dX1_draft_15 3 rfl ?_
      refine r_cVwv (As := [.int a2, .int a3]) (st := []) (wf := cx g q E) (pc := 16) C (fun _ h => c_X8_draft_pp h) kY_X8_draft kw_3_62 kw_3_63 kw_3_61 rfl ⟨Nat.le_of_ble_eq_true rfl, Nat.le_of_ble_eq_true rfl⟩ rfl rfl ⟨Nat.zero_le _, Nat.zero_le _⟩ 7 rfl rfl rfl (Nat.le_of_ble_eq_true rfl) dX1_draft_16 (fun S2 => ?_)
      refine r_goto 37 (pc := 19) C dX1_draft_19 (by decide) ?_
      exact r_retWV (wf := cx g q E) hR (pc := 37) dX1_draft_37
    · refine r_case (fun h2_2 => ?_) (fun h2_2 => ?_)
      · refine r_cVpr (As := [.int a1]) (st := []) (pc := 2) C (c_X1_pairsOf_2 h2_2) kY_X1_pairsOf kw_3_4 kw_3_5 kw_3_3 rfl ⟨Nat.le_of_ble_eq_true rfl, Nat.le_of_ble_eq_true rfl⟩ rfl rfl ⟨Nat.zero_le _, Nat.zero_le _⟩ 3 rfl rfl rfl (Nat.le_of_ble_eq_true rfl) dX1_draft_2 ?_
        refine r_astore (pc := 5) C dX1_draft_5 (lv' := [(0, .ref (q 3)), (1, .int a1), (2, .int a2), (3, .int a3), (4, .ref (q 10))]) (by decide) [1, 2, 3, 4, 0] rfl ?_
        refine r_aload (pc := 7) C dX1_draft_7 4 rfl ?_
        refine r_ifnullR (pc := 9) C dX1_draft_9 ?_
        refine r_aload (pc := 12) C dX1_draft_12 4 rfl ?_
        refine r_iload_n (pc := 14) C dX1_draft_14 2 rfl ?_
        refine r_iload_n (pc := 15) C dX1_draft_15 3 rfl ?_
        refine r_cVwv (As := [.int a2, .int a3]) (st := []) (wf := cx g q E) (pc := 16) C (fun _ h => c_X8_draft_pa h) kY_X8_draft kw_3_62 kw_3_63 kw_3_61 rfl ⟨Nat.le_of_ble_eq_true rfl, Nat.le_of_ble_eq_true rfl⟩ rfl rfl ⟨Nat.zero_le _, Nat.zero_le _⟩ 10 rfl rfl rfl (Nat.le_of_ble_eq_true rfl) dX1_draft_16 (fun S3 => ?_)
        refine r_goto 37 (pc := 19) C dX1_draft_19 (by decide) ?_
        exact r_retWV (wf := cx g q E) hR (pc := 37) dX1_draft_37
      · refine r_cVpr (As := [.int a1]) (st := []) (pc := 2) C (c_X1_pairsOf_3 h2_0 h2_1 h2_2) kY_X1_pairsOf kw_3_4 kw_3_5 kw_3_3 rfl ⟨Nat.le_of_ble_eq_true rfl, Nat.le_of_ble_eq_true rfl⟩ rfl rfl ⟨Nat.zero_le _, Nat.zero_le _⟩ 3 rfl rfl rfl (Nat.le_of_ble_eq_true rfl) dX1_draft_2 ?_
        refine r_astoreN (pc := 5) C dX1_draft_5 (lv' := [(0, .ref (q 3)), (1, .int a1), (2, .int a2), (3, .int a3), (4, .null)]) (by decide) [1, 2, 3, 4, 0] rfl ?_
        refine r_aloadN (pc := 7) C dX1_draft_7 4 rfl ?_
        refine r_ifnullN 22 (pc := 9) C dX1_draft_9 (by decide) ?_
        refine r_aload_n (pc := 22) C dX1_draft_22 0 rfl ?_
        refine xg_bk_size (pc := 23) C kw_1_125 dX1_draft_23 ?_
        refine r_bipush (pc := 26) C dX1_draft_26 (v := 60) (by decide) ?_
        refine r_icmp_ge 37 (pc := 28) C dX1_draft_28 (by decide) ?_ ?_
        · exact r_retWV (wf := cx g q E) hR (pc := 37) dX1_draft_37
        · refine r_aload_n (pc := 31) C dX1_draft_31 0 rfl ?_
          refine r_iload_n (pc := 32) C dX1_draft_32 2 rfl ?_
          refine r_iload_n (pc := 33) C dX1_draft_33 3 rfl ?_
          refine r_cVwv (As := [.int a2, .int a3]) (st := []) (wf := cx g q E) (pc := 34) C (fun _ h => c_X1_draftMark h) kY_X1_draftMark kw_3_68 kw_0_3 kw_3_66 rfl ⟨Nat.le_of_ble_eq_true rfl, Nat.le_of_ble_eq_true rfl⟩ rfl rfl ⟨Nat.zero_le _, Nat.zero_le _⟩ 3 rfl rfl rfl (Nat.le_of_ble_eq_true rfl) dX1_draft_34 (fun S4 => ?_)
          exact r_retWV (wf := cx g q E) hR (pc := 37) dX1_draft_37
set_option maxRecDepth 100000 in
theorem w_X1_draft {S : CS} {a1 : Int32} {a2 : Int32} {a3 : Int32} {S' : CS} (h : f_X1_draft S a1 a2 a3 = some S') : gI [] [5, 6, 8, 9, 11, 12, 13, 14, 15, 16, 17, 18, 19, 20, 21] S S' := by
  have hS : gI [] [5, 6, 8, 9, 11, 12, 13, 14, 15, 16, 17, 18, 19, 20, 21] S S := gI_rf
  refine (?_ : jf (gI [] [5, 6, 8, 9, 11, 12, 13, 14, 15, 16, 17, 18, 19, 20, 21] S) id (f_X1_draft S a1 a2 a3)) _ h
  unfold f_X1_draft
  refine f_ite ?_ ?_
  · refine f_bpS (fun _ h => gI_tr hS (w_X8_draft_pe h) (by decide) (by decide)) (fun S1 hS1 => ?_)
    exact f_some hS1
  · refine f_ite ?_ ?_
    · refine f_bpS (fun _ h => gI_tr hS (w_X8_draft_pp h) (by decide) (by decide)) (fun S2 hS2 => ?_)
      exact f_some hS2
    · refine f_ite ?_ ?_
      · refine f_bpS (fun _ h => gI_tr hS (w_X8_draft_pa h) (by decide) (by decide)) (fun S3 hS3 => ?_)
        exact f_some hS3
      · refine f_ite ?_ ?_
        · exact f_some hS
        · refine f_bpS (fun _ h => gI_tr hS (w_X1_draftMark h) (by decide) (by decide)) (fun S4 hS4 => ?_)
          exact f_some hS4
abbrev rm_X10_failAtNumber : Room := { frames := 0, cells := 0, slots := 0, locals := 0 }
theorem kY_X10_failAtNumber : kY yX10_failAtNumber cX10_failAtNumber 1 (some .boolean) 0 := ⟨kw_1_2, kw_3_52, by decide, by decide, by decide +kernel⟩
def f_X10_failAtNumber (S : CS) : Option (Bool × CS) :=
  lt (ci S 5 (S.1 4)) fun S1 =>
  some (false, S1)
set_option maxRecDepth 100000 in
set_option maxHeartbeats 4000000 in
theorem c_X10_failAtNumber {g : KG} {q : Nat → Nat} {E : va_W} {S : CS}  {r : Bool} {S' : CS} (h : f_X10_failAtNumber S = some (r, S')) : ∀ l, kM l yX10_failAtNumber cX10_failAtNumber 1 (some .boolean) rm_X10_failAtNumber g [.ref (q 1)] (cx g q E S) (cx g q E S') (some (.int (b2 r))) 0 0 := by
  refine k_open_z (own := "MarkChains$Tape") (by decide) rfl (Nat.le_of_ble_eq_true rfl) (fun X C hR => ?_)
  refine (?_ : jJ X g ((r, S') : Bool × CS) (cx g q E S) 0 0 0 [(0, .ref (q 1))] [] (f_X10_failAtNumber S)) h
  unfold f_X10_failAtNumber
  refine r_aload_n (pc := 0) C dX10_failAtNumber_0 0 rfl ?_
  refine r_aload_n (pc := 1) C dX10_failAtNumber_1 0 rfl ?_
  refine xg_tp_numberPlace (pc := 2) C kw_1_44 dX10_failAtNumber_2 ?_
  refine xp_tp_fault (pc := 5) C kw_1_45 dX10_failAtNumber_5 (fun S1 => ?_)
  refine r_iconst (pc := 8) C dX10_failAtNumber_8 (v := 0) (by decide) ?_
  exact r_retWZ hR rfl (pc := 9) dX10_failAtNumber_9
set_option maxRecDepth 100000 in
theorem w_X10_failAtNumber {S : CS}  {r : Bool} {S' : CS} (h : f_X10_failAtNumber S = some (r, S')) : gI [5] [] S S' := by
  have hS : gI [5] [] S S := gI_rf
  refine (?_ : jf (gI [5] [] S) Prod.snd (f_X10_failAtNumber S)) _ h
  unfold f_X10_failAtNumber
  refine f_ltS (gI_ci hS (by decide)) (fun S1 hS1 => ?_)
  exact f_some hS1
abbrev rm_X8_settle_pe : Room := { frames := 1, cells := 0, slots := 0, locals := 20 }
theorem kY_X8_settle : kY yX8_settle cX8_settle 1 none 0 := ⟨kw_1_4, kw_3_77, by decide, by decide, by decide +kernel⟩
def f_X8_settle_pe (S : CS) : Option (CS) :=
  bp (f_X8_isFull_pe S) (fun x1 =>
  (if x1 = true then
  some S
 else
  lt (ci S 7 ((S.1 7) + 1)) fun S2 =>
  some S2))
set_option maxRecDepth 100000 in
set_option maxHeartbeats 4000000 in
theorem c_X8_settle_pe {g : KG} {q : Nat → Nat} {E : va_W} {S : CS}  {S' : CS} (h : f_X8_settle_pe S = some S') : ∀ l, kM l yX8_settle cX8_settle 1 none rm_X8_settle_pe g [.ref (q 4)] (cx g q E S) (cx g q E S') (none) 0 0 := by
  refine k_open_v (own := "MarkChains$Pairs") (by decide) rfl (Nat.le_of_ble_eq_true rfl) (fun X C hR => ?_)
  refine (?_ : jJ X g (S' : CS) (cx g q E S) 0 0 0 [(0, .ref (q 4))] [] (f_X8_settle_pe S)) h
  unfold f_X8_settle_pe
  refine r_aload_n (pc := 0) C dX8_settle_0 0 rfl ?_
  refine r_cVpz (As := []) (st := []) (pc := 1) C (fun _ h => c_X8_isFull_pe h) kY_X8_isFull kw_3_8 kw_3_9 kw_3_65 rfl ⟨Nat.le_of_ble_eq_true rfl, Nat.le_of_ble_eq_true rfl⟩ rfl rfl ⟨Nat.zero_le _, Nat.zero_le _⟩ 4 rfl rfl rfl (Nat.le_of_ble_eq_true rfl) dX8_settle_1 (fun x1 => ?_)
  refine r_ifb_ne 17 (pc := 4) C dX8_settle_4 (by decide) ?_ ?_
  · exact r_retWV (wf := cx g q E) hR (pc := 17) dX8_settle_17
  · refine r_aload_n (pc := 7) C dX8_settle_7 0 rfl ?_
    refine r_dup (pc := 8) C dX8_settle_8 rfl ?_
    refine xg_pe_size (pc := 9) C kw_1_82 dX8_settle_9 ?_
    refine r_iconst (pc := 12) C dX8_settle_12 (v := 1) (by decide) ?_
    refine r_iadd (pc := 13) C dX8_settle_13 ?_
    refine xp_pe_size (pc := 14) C kw_1_82 dX8_settle_14 (fun S2 => ?_)
    exact r_retWV (wf := cx g q E) hR (pc := 17) dX8_settle_17
set_option maxRecDepth 100000 in
theorem w_X8_settle_pe {S : CS}  {S' : CS} (h : f_X8_settle_pe S = some S') : gI [7] [] S S' := by
  have hS : gI [7] [] S S := gI_rf
  refine (?_ : jf (gI [7] [] S) id (f_X8_settle_pe S)) _ h
  unfold f_X8_settle_pe
  refine f_bp (fun x1 => ?_)
  refine f_ite ?_ ?_
  · exact f_some hS
  · refine f_ltS (gI_ci hS (by decide)) (fun S2 hS2 => ?_)
    exact f_some hS2
abbrev rm_X8_settle_pp : Room := { frames := 1, cells := 0, slots := 0, locals := 20 }
def f_X8_settle_pp (S : CS) : Option (CS) :=
  bp (f_X8_isFull_pp S) (fun x1 =>
  (if x1 = true then
  some S
 else
  lt (ci S 8 ((S.1 8) + 1)) fun S2 =>
  some S2))
set_option maxRecDepth 100000 in
set_option maxHeartbeats 4000000 in
theorem c_X8_settle_pp {g : KG} {q : Nat → Nat} {E : va_W} {S : CS}  {S' : CS} (h : f_X8_settle_pp S = some S') : ∀ l, kM l yX8_settle cX8_settle 1 none rm_X8_settle_pp g [.ref (q 7)] (cx g q E S) (cx g q E S') (none) 0 0 := by
  refine k_open_v (own := "MarkChains$Pairs") (by decide) rfl (Nat.le_of_ble_eq_true rfl) (fun X C hR => ?_)
  refine (?_ : jJ X g (S' : CS) (cx g q E S) 0 0 0 [(0, .ref (q 7))] [] (f_X8_settle_pp S)) h
  unfold f_X8_settle_pp
  refine r_aload_n (pc := 0) C dX8_settle_0 0 rfl ?_
  refine r_cVpz (As := []) (st := []) (pc := 1) C (fun _ h => c_X8_isFull_pp h) kY_X8_isFull kw_3_8 kw_3_9 kw_3_65 rfl ⟨Nat.le_of_ble_eq_true rfl, Nat.le_of_ble_eq_true rfl⟩ rfl rfl ⟨Nat.zero_le _, Nat.zero_le _⟩ 7 rfl rfl rfl (Nat.le_of_ble_eq_true rfl) dX8_settle_1 (fun x1 => ?_)
  refine r_ifb_ne 17 (pc := 4) C dX8_settle_4 (by decide) ?_ ?_
  · exact r_retWV (wf := cx g q E) hR (pc := 17) dX8_settle_17
  · refine r_aload_n (pc := 7) C dX8_settle_7 0 rfl ?_
    refine r_dup (pc := 8) C dX8_settle_8 rfl ?_
    refine xg_pp_size (pc := 9) C kw_1_82 dX8_settle_9 ?_
    refine r_iconst (pc := 12) C dX8_settle_12 (v := 1) (by decide) ?_
    refine r_iadd (pc := 13) C dX8_settle_13 ?_
    refine xp_pp_size (pc := 14) C kw_1_82 dX8_settle_14 (fun S2 => ?_)
    exact r_retWV (wf := cx g q E) hR (pc := 17) dX8_settle_17
set_option maxRecDepth 100000 in
theorem w_X8_settle_pp {S : CS}  {S' : CS} (h : f_X8_settle_pp S = some S') : gI [8] [] S S' := by
  have hS : gI [8] [] S S := gI_rf
  refine (?_ : jf (gI [8] [] S) id (f_X8_settle_pp S)) _ h
  unfold f_X8_settle_pp
  refine f_bp (fun x1 => ?_)
  refine f_ite ?_ ?_
  · exact f_some hS
  · refine f_ltS (gI_ci hS (by decide)) (fun S2 hS2 => ?_)
    exact f_some hS2
abbrev rm_X8_settle_pa : Room := { frames := 1, cells := 0, slots := 0, locals := 20 }
def f_X8_settle_pa (S : CS) : Option (CS) :=
  bp (f_X8_isFull_pa S) (fun x1 =>
  (if x1 = true then
  some S
 else
  lt (ci S 9 ((S.1 9) + 1)) fun S2 =>
  some S2))
set_option maxRecDepth 100000 in
set_option maxHeartbeats 4000000 in
theorem c_X8_settle_pa {g : KG} {q : Nat → Nat} {E : va_W} {S : CS}  {S' : CS} (h : f_X8_settle_pa S = some S') : ∀ l, kM l yX8_settle cX8_settle 1 none rm_X8_settle_pa g [.ref (q 10)] (cx g q E S) (cx g q E S') (none) 0 0 := by
  refine k_open_v (own := "MarkChains$Pairs") (by decide) rfl (Nat.le_of_ble_eq_true rfl) (fun X C hR => ?_)
  refine (?_ : jJ X g (S' : CS) (cx g q E S) 0 0 0 [(0, .ref (q 10))] [] (f_X8_settle_pa S)) h
  unfold f_X8_settle_pa
  refine r_aload_n (pc := 0) C dX8_settle_0 0 rfl ?_
  refine r_cVpz (As := []) (st := []) (pc := 1) C (fun _ h => c_X8_isFull_pa h) kY_X8_isFull kw_3_8 kw_3_9 kw_3_65 rfl ⟨Nat.le_of_ble_eq_true rfl, Nat.le_of_ble_eq_true rfl⟩ rfl rfl ⟨Nat.zero_le _, Nat.zero_le _⟩ 10 rfl rfl rfl (Nat.le_of_ble_eq_true rfl) dX8_settle_1 (fun x1 => ?_)
  refine r_ifb_ne 17 (pc := 4) C dX8_settle_4 (by decide) ?_ ?_
  · exact r_retWV (wf := cx g q E) hR (pc := 17) dX8_settle_17
  · refine r_aload_n (pc := 7) C dX8_settle_7 0 rfl ?_
    refine r_dup (pc := 8) C dX8_settle_8 rfl ?_
    refine xg_pa_size (pc := 9) C kw_1_82 dX8_settle_9 ?_
    refine r_iconst (pc := 12) C dX8_settle_12 (v := 1) (by decide) ?_
    refine r_iadd (pc := 13) C dX8_settle_13 ?_
    refine xp_pa_size (pc := 14) C kw_1_82 dX8_settle_14 (fun S2 => ?_)
    exact r_retWV (wf := cx g q E) hR (pc := 17) dX8_settle_17
set_option maxRecDepth 100000 in
theorem w_X8_settle_pa {S : CS}  {S' : CS} (h : f_X8_settle_pa S = some S') : gI [9] [] S S' := by
  have hS : gI [9] [] S S := gI_rf
  refine (?_ : jf (gI [9] [] S) id (f_X8_settle_pa S)) _ h
  unfold f_X8_settle_pa
  refine f_bp (fun x1 => ?_)
  refine f_ite ?_ ?_
  · exact f_some hS
  · refine f_ltS (gI_ci hS (by decide)) (fun S2 hS2 => ?_)
    exact f_some hS2
abbrev rm_X1_isAhead : Room := { frames := 0, cells := 0, slots := 0, locals := 0 }
theorem kY_X1_isAhead : kY yX1_isAhead cX1_isAhead 3 (some .boolean) 2 := ⟨kw_1_3, kw_3_85, by decide, by decide, by decide +kernel⟩
def f_X1_isAhead (S : CS) (a1 : Int32) (a2 : Int32) : Option (Bool) :=
  chk a1 60 (
  chk a2 60 (
  (if (S.2.1 16 a1.toNatClampNeg) = (S.2.1 16 a2.toNatClampNeg) then
  chk a1 60 (
  chk a2 60 (
  (if (S.2.1 17 a1.toNatClampNeg) = (S.2.1 17 a2.toNatClampNeg) then
  (if a2 ≤ a1 then
  some false
 else
  some true)
 else
  chk a1 60 (
  chk a2 60 (
  (if (S.2.1 17 a2.toNatClampNeg) ≤ (S.2.1 17 a1.toNatClampNeg) then
  some false
 else
  some true))))))
 else
  chk a1 60 (
  chk a2 60 (
  (if (S.2.1 16 a2.toNatClampNeg) ≤ (S.2.1 16 a1.toNatClampNeg) then
  some false
 else
  some true))))))
set_option maxRecDepth 100000 in
set_option maxHeartbeats 4000000 in
theorem c_X1_isAhead {g : KG} {q : Nat → Nat} {E : va_W} {S : CS} {a1 : Int32} {a2 : Int32} {r : Bool} (h : f_X1_isAhead S a1 a2 = some r) : ∀ l, kM l yX1_isAhead cX1_isAhead 3 (some .boolean) rm_X1_isAhead g [.ref (q 3), .int a1, .int a2] (cx g q E S) (cx g q E S) (some (.int (b2 r))) 0 0 := by
  refine k_open_z (own := "MarkChains$Book") (by decide) rfl (Nat.le_of_ble_eq_true rfl) (fun X C hR => ?_)
  refine (?_ : jJ X g (r : Bool) (cx g q E S) 0 0 0 [(0, .ref (q 3)), (1, .int a1), (2, .int a2)] [] (f_X1_isAhead S a1 a2)) h
  unfold f_X1_isAhead
  refine r_aload_n (pc := 0) C dX1_isAhead_0 0 rfl ?_
  refine xg_bk_day (pc := 1) C kw_1_107 dX1_isAhead_1 ?_
  refine r_iload_n (pc := 4) C dX1_isAhead_4 1 rfl ?_
  refine xl_bk_day (pc := 5) C dX1_isAhead_5 ?_
  refine r_aload_n (pc := 6) C dX1_isAhead_6 0 rfl ?_
  refine xg_bk_day (pc := 7) C kw_1_107 dX1_isAhead_7 ?_
  refine r_iload_n (pc := 10) C dX1_isAhead_10 2 rfl ?_
  refine xl_bk_day (pc := 11) C dX1_isAhead_11 ?_
  refine r_icmp_eq 36 (pc := 12) C dX1_isAhead_12 (by decide) ?_ ?_
  · refine r_aload_n (pc := 36) C dX1_isAhead_36 0 rfl ?_
    refine xg_bk_minute (pc := 37) C kw_1_110 dX1_isAhead_37 ?_
    refine r_iload_n (pc := 40) C dX1_isAhead_40 1 rfl ?_
    refine xl_bk_minute (pc := 41) C dX1_isAhead_41 ?_
    refine r_aload_n (pc := 42) C dX1_isAhead_42 0 rfl ?_
    refine xg_bk_minute (pc := 43) C kw_1_110 dX1_isAhead_43 ?_
    refine r_iload_n (pc := 46) C dX1_isAhead_46 2 rfl ?_
    refine xl_bk_minute (pc := 47) C dX1_isAhead_47 ?_
    refine r_icmp_eq 72 (pc := 48) C dX1_isAhead_48 (by decide) ?_ ?_
    · refine r_iload_n (pc := 72) C dX1_isAhead_72 1 rfl ?_
      refine r_iload_n (pc := 73) C dX1_isAhead_73 2 rfl ?_
      refine r_icmp_ge 81 (pc := 74) C dX1_isAhead_74 (by decide) ?_ ?_
      · refine r_iconst (pc := 81) C dX1_isAhead_81 (v := 0) (by decide) ?_
        exact r_retPZ hR rfl (pc := 82) dX1_isAhead_82
      · refine r_iconst (pc := 77) C dX1_isAhead_77 (v := 1) (by decide) ?_
        refine r_goto 82 (pc := 78) C dX1_isAhead_78 (by decide) ?_
        exact r_retPZ hR rfl (pc := 82) dX1_isAhead_82
    · refine r_aload_n (pc := 51) C dX1_isAhead_51 0 rfl ?_
      refine xg_bk_minute (pc := 52) C kw_1_110 dX1_isAhead_52 ?_
      refine r_iload_n (pc := 55) C dX1_isAhead_55 1 rfl ?_
      refine xl_bk_minute (pc := 56) C dX1_isAhead_56 ?_
      refine r_aload_n (pc := 57) C dX1_isAhead_57 0 rfl ?_
      refine xg_bk_minute (pc := 58) C kw_1_110 dX1_isAhead_58 ?_
      refine r_iload_n (pc := 61) C dX1_isAhead_61 2 rfl ?_
      refine xl_bk_minute (pc := 62) C dX1_isAhead_62 ?_
      refine r_icmp_ge 70 (pc := 63) C dX1_isAhead_63 (by decide) ?_ ?_
      · refine r_iconst (pc := 70) C dX1_isAhead_70 (v := 0) (by decide) ?_
        exact r_retPZ hR rfl (pc := 71) dX1_isAhead_71
      · refine r_iconst (pc := 66) C dX1_isAhead_66 (v := 1) (by decide) ?_
        refine r_goto 71 (pc := 67) C dX1_isAhead_67 (by decide) ?_
        exact r_retPZ hR rfl (pc := 71) dX1_isAhead_71
  · refine r_aload_n (pc := 15) C dX1_isAhead_15 0 rfl ?_
    refine xg_bk_day (pc := 16) C kw_1_107 dX1_isAhead_16 ?_
    refine r_iload_n (pc := 19) C dX1_isAhead_19 1 rfl ?_
    refine xl_bk_day (pc := 20) C dX1_isAhead_20 ?_
    refine r_aload_n (pc := 21) C dX1_isAhead_21 0 rfl ?_
    refine xg_bk_day (pc := 22) C kw_1_107 dX1_isAhead_22 ?_
    refine r_iload_n (pc := 25) C dX1_isAhead_25 2 rfl ?_
    refine xl_bk_day (pc := 26) C dX1_isAhead_26 ?_
    refine r_icmp_ge 34 (pc := 27) C dX1_isAhead_27 (by decide) ?_ ?_
    · refine r_iconst (pc := 34) C dX1_isAhead_34 (v := 0) (by decide) ?_
      exact r_retPZ hR rfl (pc := 35) dX1_isAhead_35
    · refine r_iconst (pc := 30) C dX1_isAhead_30 (v := 1) (by decide) ?_
      refine r_goto 35 (pc := 31) C dX1_isAhead_31 (by decide) ?_
      exact r_retPZ hR rfl (pc := 35) dX1_isAhead_35
abbrev rm_X1_settleMark : Room := { frames := 1, cells := 0, slots := 0, locals := 22 }
theorem kY_X1_settleMark : kY yX1_settleMark cX1_settleMark 2 none 0 := ⟨kw_1_3, kw_3_81, by decide, by decide, by decide +kernel⟩
def L_X1_settleMark_25 (k8 : CS → Int32 → Option (CS)) : Nat → CS → Int32 → Option (CS) := lo2 fun rec6 S5 x4 =>
  (if x4 ≤ 0 then
  k8 S5 x4
 else
  chk (x4 - 1) 60 (
  bp (f_X1_isAhead S5 (S5.1 6) (S5.2.1 24 (x4 - 1).toNatClampNeg)) (fun x10 =>
  (if x10 = true then
  chk (x4 - 1) 60 (
  chk x4 60 (lt (ca S5 24 (upd (S5.2.1 24) x4.toNatClampNeg (S5.2.1 24 (x4 - 1).toNatClampNeg))) fun S11 =>
  lt (x4 + (-1)) fun x12 =>
  rec6 S11 x12))
 else
  k8 S5 x4))))
set_option maxRecDepth 100000 in
set_option maxHeartbeats 4000000 in
theorem l_X1_settleMark_25 {X : KX} {g : KG} {q : Nat → Nat} {E : va_W} {res : CS} (C : kC X g cX1_settleMark "MarkChains$Book" rm_X1_settleMark 2) (hR : ∀ (pc : Nat) (lv : List (Nat × Value)), decode cX1_settleMark pc = .ok (.return_, 1) → jW X g (cx g q E res) 0 0 pc lv []) (k8 : CS → Int32 → Option (CS)) (hk9 : ∀ (S13 : CS) (x14 : Int32), jJ X g res (cx g q E S13) 0 0 68 [(0, .ref (q 3)), (1, .int x14)] [] (k8 S13 x14)) : ∀ (n : Nat) (S5 : CS) (x4 : Int32), jJ X g res (cx g q E S5) 0 0 25 [(0, .ref (q 3)), (1, .int x4)] [] (L_X1_settleMark_25 k8 n S5 x4) := by
  refine r_lo2 (fun S5 x4 => cx g q E S5) (fun S5 x4 => [(0, .ref (q 3)), (1, .int x4)]) (fun rec6 ih7 S5 x4 => ?_)
  refine r_iload_n (pc := 25) C dX1_settleMark_25 1 rfl ?_
  refine r_if_le 68 (pc := 26) C dX1_settleMark_26 (by decide) ?_ ?_
  · exact hk9 S5 x4
  · refine r_aload_n (pc := 29) C dX1_settleMark_29 0 rfl ?_
    refine r_aload_n (pc := 30) C dX1_settleMark_30 0 rfl ?_
    refine xg_bk_size (pc := 31) C kw_1_125 dX1_settleMark_31 ?_
    refine r_aload_n (pc := 34) C dX1_settleMark_34 0 rfl ?_
    refine xg_bk_order (pc := 35) C kw_1_123 dX1_settleMark_35 ?_
    refine r_iload_n (pc := 38) C dX1_settleMark_38 1 rfl ?_
    refine r_iconst (pc := 39) C dX1_settleMark_39 (v := 1) (by decide) ?_
    refine r_isub (pc := 40) C dX1_settleMark_40 ?_
    refine xl_bk_order (pc := 41) C dX1_settleMark_41 ?_
    refine r_cVpz (As := [.int (S5.1 6), .int (S5.2.1 24 (x4 - 1).toNatClampNeg)]) (st := []) (pc := 42) C (fun _ h => c_X1_isAhead h) kY_X1_isAhead kw_3_83 kw_3_84 kw_3_82 rfl ⟨Nat.le_of_ble_eq_true rfl, Nat.le_of_ble_eq_true rfl⟩ rfl rfl ⟨Nat.zero_le _, Nat.zero_le _⟩ 3 rfl rfl rfl (Nat.le_of_ble_eq_true rfl) dX1_settleMark_42 (fun x10 => ?_)
    refine r_ifb_eq 68 (pc := 45) C dX1_settleMark_45 (by decide) ?_ ?_
    · exact hk9 S5 x4
    · refine r_aload_n (pc := 48) C dX1_settleMark_48 0 rfl ?_
      refine xg_bk_order (pc := 49) C kw_1_123 dX1_settleMark_49 ?_
      refine r_iload_n (pc := 52) C dX1_settleMark_52 1 rfl ?_
      refine r_aload_n (pc := 53) C dX1_settleMark_53 0 rfl ?_
      refine xg_bk_order (pc := 54) C kw_1_123 dX1_settleMark_54 ?_
      refine r_iload_n (pc := 57) C dX1_settleMark_57 1 rfl ?_
      refine r_iconst (pc := 58) C dX1_settleMark_58 (v := 1) (by decide) ?_
      refine r_isub (pc := 59) C dX1_settleMark_59 ?_
      refine xl_bk_order (pc := 60) C dX1_settleMark_60 ?_
      refine xs_bk_order (pc := 61) C dX1_settleMark_61 (fun S11 => ?_)
      refine r_iinc (pc := 62) C dX1_settleMark_62 (v := (-1)) (lv' := fun x12 => [(0, .ref (q 3)), (1, .int x12)]) 1 rfl (by decide) (by decide) [1, 0] (fun _ => rfl) (fun x12 => ?_)
      refine r_goto 25 (pc := 65) C dX1_settleMark_65 (by decide) ?_
      exact ih7 S11 x12
set_option maxRecDepth 100000 in
theorem v_X1_settleMark_25 {S0 : CS} {k8 : CS → Int32 → Option (CS)} (hk9 : ∀ (S13 : CS) (x14 : Int32), (gI [6] [22, 23, 24] S0) S13 → jf (gI [6] [22, 23, 24] S0) id (k8 S13 x14)) : ∀ (n : Nat) (S5 : CS) (x4 : Int32), (gI [6] [22, 23, 24] S0) S5 → jf (gI [6] [22, 23, 24] S0) id (L_X1_settleMark_25 k8 n S5 x4) := by
  refine f_lo2 (I := (gI [6] [22, 23, 24] S0)) (fun S5 x4 => S5) (fun rec6 ih7 S5 x4 hS5 => ?_)
  refine f_ite ?_ ?_
  · exact hk9 S5 x4 hS5
  · refine f_chk ?_
    refine f_bp (fun x10 => ?_)
    refine f_ite ?_ ?_
    · refine f_chk ?_
      refine f_chk (f_ltS (gI_ca hS5 (by decide)) (fun S11 hS11 => ?_))
      refine f_lt (fun x12 => ?_)
      exact ih7 S11 x12 hS11
    · exact hk9 S5 x4 hS5
def f_X1_settleMark (S : CS) : Option (CS) :=
  chk (S.1 6) 60 (lt (ca S 22 (upd (S.2.1 22) (S.1 6).toNatClampNeg (-1))) fun S1 =>
  chk (S1.1 6) 60 (lt (ca S1 23 (upd (S1.2.1 23) (S1.1 6).toNatClampNeg (-1))) fun S2 =>
  lt (S2.1 6) fun x3 =>
  L_X1_settleMark_25 (fun S15 x16 =>
  chk x16 60 (lt (ca S15 24 (upd (S15.2.1 24) x16.toNatClampNeg (S15.1 6))) fun S17 =>
  lt (ci S17 6 ((S17.1 6) + 1)) fun S18 =>
  some S18)) FU S2 x3))
set_option maxRecDepth 100000 in
set_option maxHeartbeats 4000000 in
theorem c_X1_settleMark {g : KG} {q : Nat → Nat} {E : va_W} {S : CS}  {S' : CS} (h : f_X1_settleMark S = some S') : ∀ l, kM l yX1_settleMark cX1_settleMark 2 none rm_X1_settleMark g [.ref (q 3)] (cx g q E S) (cx g q E S') (none) 0 0 := by
  refine k_open_v (own := "MarkChains$Book") (by decide) rfl (Nat.le_of_ble_eq_true rfl) (fun X C hR => ?_)
  refine (?_ : jJ X g (S' : CS) (cx g q E S) 0 0 0 [(0, .ref (q 3))] [] (f_X1_settleMark S)) h
  unfold f_X1_settleMark
  refine r_aload_n (pc := 0) C dX1_settleMark_0 0 rfl ?_
  refine xg_bk_ratified (pc := 1) C kw_1_119 dX1_settleMark_1 ?_
  refine r_aload_n (pc := 4) C dX1_settleMark_4 0 rfl ?_
  refine xg_bk_size (pc := 5) C kw_1_125 dX1_settleMark_5 ?_
  refine r_iconst (pc := 8) C dX1_settleMark_8 (v := (-1)) (by decide) ?_
  refine xs_bk_ratified (pc := 9) C dX1_settleMark_9 (fun S1 => ?_)
  refine r_aload_n (pc := 10) C dX1_settleMark_10 0 rfl ?_
  refine xg_bk_struck (pc := 11) C kw_1_121 dX1_settleMark_11 ?_
  refine r_aload_n (pc := 14) C dX1_settleMark_14 0 rfl ?_
  refine xg_bk_size (pc := 15) C kw_1_125 dX1_settleMark_15 ?_
  refine r_iconst (pc := 18) C dX1_settleMark_18 (v := (-1)) (by decide) ?_
  refine xs_bk_struck (pc := 19) C dX1_settleMark_19 (fun S2 => ?_)
  refine r_aload_n (pc := 20) C dX1_settleMark_20 0 rfl ?_
  refine xg_bk_size (pc := 21) C kw_1_125 dX1_settleMark_21 ?_
  refine r_istoreV_n (pc := 24) C dX1_settleMark_24 (lv' := fun x3 => [(0, .ref (q 3)), (1, .int x3)]) (by decide) [1, 0] (fun _ => rfl) (fun x3 => ?_)
  refine l_X1_settleMark_25 C hR _ (fun S15 x16 => ?_) FU S2 x3
  refine r_aload_n (pc := 68) C dX1_settleMark_68 0 rfl ?_
  refine xg_bk_order (pc := 69) C kw_1_123 dX1_settleMark_69 ?_
  refine r_iload_n (pc := 72) C dX1_settleMark_72 1 rfl ?_
  refine r_aload_n (pc := 73) C dX1_settleMark_73 0 rfl ?_
  refine xg_bk_size (pc := 74) C kw_1_125 dX1_settleMark_74 ?_
  refine xs_bk_order (pc := 77) C dX1_settleMark_77 (fun S17 => ?_)
  refine r_aload_n (pc := 78) C dX1_settleMark_78 0 rfl ?_
  refine r_dup (pc := 79) C dX1_settleMark_79 rfl ?_
  refine xg_bk_size (pc := 80) C kw_1_125 dX1_settleMark_80 ?_
  refine r_iconst (pc := 83) C dX1_settleMark_83 (v := 1) (by decide) ?_
  refine r_iadd (pc := 84) C dX1_settleMark_84 ?_
  refine xp_bk_size (pc := 85) C kw_1_125 dX1_settleMark_85 (fun S18 => ?_)
  exact r_retWV (wf := cx g q E) hR (pc := 88) dX1_settleMark_88
set_option maxRecDepth 100000 in
theorem w_X1_settleMark {S : CS}  {S' : CS} (h : f_X1_settleMark S = some S') : gI [6] [22, 23, 24] S S' := by
  have hS : gI [6] [22, 23, 24] S S := gI_rf
  refine (?_ : jf (gI [6] [22, 23, 24] S) id (f_X1_settleMark S)) _ h
  unfold f_X1_settleMark
  refine f_chk (f_ltS (gI_ca hS (by decide)) (fun S1 hS1 => ?_))
  refine f_chk (f_ltS (gI_ca hS1 (by decide)) (fun S2 hS2 => ?_))
  refine f_lt (fun x3 => ?_)
  refine v_X1_settleMark_25 (fun S15 x16 hS15 => ?_) FU S2 x3 hS2
  refine f_chk (f_ltS (gI_ca hS15 (by decide)) (fun S17 hS17 => ?_))
  refine f_ltS (gI_ci hS17 (by decide)) (fun S18 hS18 => ?_)
  exact f_some hS18
abbrev rm_X1_settle : Room := { frames := 2, cells := 0, slots := 0, locals := 43 }
theorem kY_X1_settle : kY yX1_settle cX1_settle 3 none 1 := ⟨kw_1_3, kw_3_73, by decide, by decide, by decide +kernel⟩
def f_X1_settle (S : CS) (a1 : Int32) : Option (CS) :=
  (if a1 = 0 then
  bp (f_X8_settle_pe S) (fun S1 =>
  some S1)
 else (if a1 = 1 then
  bp (f_X8_settle_pp S) (fun S2 =>
  some S2)
 else (if a1 = 2 then
  bp (f_X8_settle_pa S) (fun S3 =>
  some S3)
 else
  (if 60 ≤ (S.1 6) then
  some S
 else
  bp (f_X1_settleMark S) (fun S4 =>
  some S4)))))
set_option maxRecDepth 100000 in
set_option maxHeartbeats 4000000 in
theorem c_X1_settle {g : KG} {q : Nat → Nat} {E : va_W} {S : CS} {a1 : Int32} {S' : CS} (h : f_X1_settle S a1 = some S') : ∀ l, kM l yX1_settle cX1_settle 3 none rm_X1_settle g [.ref (q 3), .int a1] (cx g q E S) (cx g q E S') (none) 0 0 := by
  refine k_open_v (own := "MarkChains$Book") (by decide) rfl (Nat.le_of_ble_eq_true rfl) (fun X C hR => ?_)
  refine (?_ : jJ X g (S' : CS) (cx g q E S) 0 0 0 [(0, .ref (q 3)), (1, .int a1)] [] (f_X1_settle S a1)) h
  unfold f_X1_settle
  refine r_aload_n (pc := 0) C dX1_settle_0 0 rfl ?_
  refine r_iload_n (pc := 1) C dX1_settle_1 1 rfl ?_
  refine r_case (fun h2_0 => ?_) (fun h2_0 => ?_)
  · refine r_cVpr (As := [.int a1]) (st := []) (pc := 2) C (c_X1_pairsOf_0 h2_0) kY_X1_pairsOf kw_3_4 kw_3_5 kw_3_3 rfl ⟨Nat.le_of_ble_eq_true rfl, Nat.le_of_ble_eq_true rfl⟩ rfl rfl ⟨Nat.zero_le _, Nat.zero_le _⟩ 3 rfl rfl rfl (Nat.le_of_ble_eq_true rfl) dX1_settle_2 ?_
    refine r_astore_n (pc := 5) C dX1_settle_5 (lv' := [(0, .ref (q 3)), (1, .int a1), (2, .ref (q 4))]) (by decide) [1, 2, 0] rfl ?_
    refine r_aload_n (pc := 6) C dX1_settle_6 2 rfl ?_
    refine r_ifnullR (pc := 7) C dX1_settle_7 ?_
    refine r_aload_n (pc := 10) C dX1_settle_10 2 rfl ?_
    refine r_cVwv (As := []) (st := []) (wf := cx g q E) (pc := 11) C (fun _ h => c_X8_settle_pe h) kY_X8_settle kw_3_75 kw_3_76 kw_3_74 rfl ⟨Nat.le_of_ble_eq_true rfl, Nat.le_of_ble_eq_true rfl⟩ rfl rfl ⟨Nat.zero_le _, Nat.zero_le _⟩ 4 rfl rfl rfl (Nat.le_of_ble_eq_true rfl) dX1_settle_11 (fun S1 => ?_)
    refine r_goto 30 (pc := 14) C dX1_settle_14 (by decide) ?_
    exact r_retWV (wf := cx g q E) hR (pc := 30) dX1_settle_30
  · refine r_case (fun h2_1 => ?_) (fun h2_1 => ?_)
    · refine r_cVpr (As := [.int a1]) (st := []) (pc := 2) C (c_X1_pairsOf_1 h2_1) kY_X1_pairsOf kw_3_4 kw_3_5 kw_3_3 rfl ⟨Nat.le_of_ble_eq_true rfl, Nat.le_of_ble_eq_true rfl⟩ rfl rfl ⟨Nat.zero_le _, Nat.zero_le _⟩ 3 rfl rfl rfl (Nat.le_of_ble_eq_true rfl) dX1_settle_2 ?_
      refine r_astore_n (pc := 5) C dX1_settle_5 (lv' := [(0, .ref (q 3)), (1, .int a1), (2, .ref (q 7))]) (by decide) [1, 2, 0] rfl ?_
      refine r_aload_n (pc := 6) C dX1_settle_6 2 rfl ?_
      refine r_ifnullR (pc := 7) C dX1_settle_7 ?_
      refine r_aload_n (pc := 10) C dX1_settle_10 2 rfl ?_
      refine r_cVwv (As := []) (st := []) (wf := cx g q E) (pc := 11) C (fun _ h => c_X8_settle_pp h) kY_X8_settle kw_3_75 kw_3_76 kw_3_74 rfl ⟨Nat.le_of_ble_eq_true rfl, Nat.le_of_ble_eq_true rfl⟩ rfl rfl ⟨Nat.zero_le _, Nat.zero_le _⟩ 7 rfl rfl rfl (Nat.le_of_ble_eq_true rfl) dX1_settle_11 (fun S2 => ?_)
      refine r_goto 30 (pc := 14) C dX1_settle_14 (by decide) ?_
      exact r_retWV (wf := cx g q E) hR (pc := 30) dX1_settle_30
    · refine r_case (fun h2_2 => ?_) (fun h2_2 => ?_)
      · refine r_cVpr (As := [.int a1]) (st := []) (pc := 2) C (c_X1_pairsOf_2 h2_2) kY_X1_pairsOf kw_3_4 kw_3_5 kw_3_3 rfl ⟨Nat.le_of_ble_eq_true rfl, Nat.le_of_ble_eq_true rfl⟩ rfl rfl ⟨Nat.zero_le _, Nat.zero_le _⟩ 3 rfl rfl rfl (Nat.le_of_ble_eq_true rfl) dX1_settle_2 ?_
        refine r_astore_n (pc := 5) C dX1_settle_5 (lv' := [(0, .ref (q 3)), (1, .int a1), (2, .ref (q 10))]) (by decide) [1, 2, 0] rfl ?_
        refine r_aload_n (pc := 6) C dX1_settle_6 2 rfl ?_
        refine r_ifnullR (pc := 7) C dX1_settle_7 ?_
        refine r_aload_n (pc := 10) C dX1_settle_10 2 rfl ?_
        refine r_cVwv (As := []) (st := []) (wf := cx g q E) (pc := 11) C (fun _ h => c_X8_settle_pa h) kY_X8_settle kw_3_75 kw_3_76 kw_3_74 rfl ⟨Nat.le_of_ble_eq_true rfl, Nat.le_of_ble_eq_true rfl⟩ rfl rfl ⟨Nat.zero_le _, Nat.zero_le _⟩ 10 rfl rfl rfl (Nat.le_of_ble_eq_true rfl) dX1_settle_11 (fun S3 => ?_)
        refine r_goto 30 (pc := 14) C dX1_settle_14 (by decide) ?_
        exact r_retWV (wf := cx g q E) hR (pc := 30) dX1_settle_30
      · refine r_cVpr (As := [.int a1]) (st := []) (pc := 2) C (c_X1_pairsOf_3 h2_0 h2_1 h2_2) kY_X1_pairsOf kw_3_4 kw_3_5 kw_3_3 rfl ⟨Nat.le_of_ble_eq_true rfl, Nat.le_of_ble_eq_true rfl⟩ rfl rfl ⟨Nat.zero_le _, Nat.zero_le _⟩ 3 rfl rfl rfl (Nat.le_of_ble_eq_true rfl) dX1_settle_2 ?_
        refine r_astore_nN (pc := 5) C dX1_settle_5 (lv' := [(0, .ref (q 3)), (1, .int a1), (2, .null)]) (by decide) [1, 2, 0] rfl ?_
        refine r_aload_nN (pc := 6) C dX1_settle_6 2 rfl ?_
        refine r_ifnullN 17 (pc := 7) C dX1_settle_7 (by decide) ?_
        refine r_aload_n (pc := 17) C dX1_settle_17 0 rfl ?_
        refine xg_bk_size (pc := 18) C kw_1_125 dX1_settle_18 ?_
        refine r_bipush (pc := 21) C dX1_settle_21 (v := 60) (by decide) ?_
        refine r_icmp_ge 30 (pc := 23) C dX1_settle_23 (by decide) ?_ ?_
        · exact r_retWV (wf := cx g q E) hR (pc := 30) dX1_settle_30
        · refine r_aload_n (pc := 26) C dX1_settle_26 0 rfl ?_
          refine r_cVwv (As := []) (st := []) (wf := cx g q E) (pc := 27) C (fun _ h => c_X1_settleMark h) kY_X1_settleMark kw_3_80 kw_0_4 kw_3_78 rfl ⟨Nat.le_of_ble_eq_true rfl, Nat.le_of_ble_eq_true rfl⟩ rfl rfl ⟨Nat.zero_le _, Nat.zero_le _⟩ 3 rfl rfl rfl (Nat.le_of_ble_eq_true rfl) dX1_settle_27 (fun S4 => ?_)
          exact r_retWV (wf := cx g q E) hR (pc := 30) dX1_settle_30
set_option maxRecDepth 100000 in
theorem w_X1_settle {S : CS} {a1 : Int32} {S' : CS} (h : f_X1_settle S a1 = some S') : gI [6, 7, 8, 9] [22, 23, 24] S S' := by
  have hS : gI [6, 7, 8, 9] [22, 23, 24] S S := gI_rf
  refine (?_ : jf (gI [6, 7, 8, 9] [22, 23, 24] S) id (f_X1_settle S a1)) _ h
  unfold f_X1_settle
  refine f_ite ?_ ?_
  · refine f_bpS (fun _ h => gI_tr hS (w_X8_settle_pe h) (by decide) (by decide)) (fun S1 hS1 => ?_)
    exact f_some hS1
  · refine f_ite ?_ ?_
    · refine f_bpS (fun _ h => gI_tr hS (w_X8_settle_pp h) (by decide) (by decide)) (fun S2 hS2 => ?_)
      exact f_some hS2
    · refine f_ite ?_ ?_
      · refine f_bpS (fun _ h => gI_tr hS (w_X8_settle_pa h) (by decide) (by decide)) (fun S3 hS3 => ?_)
        exact f_some hS3
      · refine f_ite ?_ ?_
        · exact f_some hS
        · refine f_bpS (fun _ h => gI_tr hS (w_X1_settleMark h) (by decide) (by decide)) (fun S4 hS4 => ?_)
          exact f_some hS4
abbrev rm_X6_readItem : Room := { frames := 4, cells := 0, slots := 0, locals := 91 }
theorem kY_X6_readItem : kY yX6_readItem cX6_readItem 5 (some .boolean) 1 := ⟨kw_1_6, kw_2_149, by decide, by decide, by decide +kernel⟩
def L_X6_readItem_59 (c1 : Int32) (c2 : Int32) (c3 : Int32) (k14 : CS → Option (Bool × CS)) : Nat → CS → Int32 → Option (Bool × CS) := lo2 fun rec12 S11 x10 =>
  (if c3 ≤ x10 then
  k14 S11
 else
  bw (f_X10_readNumber S11) (fun x16 S17 =>
  (if x16 = true then
  bp (f_X6_canBe S17 c2 x10 (S17.1 3) c1) (fun x18 =>
  (if x18 = true then
  jn1 (fun (x19 : Int32) =>
  bw (f_X10_pass S17 x19) (fun x20 S21 =>
  (if x20 = true then
  bp (f_X1_draft S21 c2 x10 (S21.1 3)) (fun S22 =>
  lt (x10 + 1) fun x23 =>
  rec12 S22 x23)
 else
  some (false, S21)))) (fun k24 =>
  (if x10 = (c3 - 1) then
  k24 59
 else
  k24 44))
 else
  bw (f_X10_failAtNumber S17) (fun x26 S27 =>
  some (x26, S27))))
 else
  some (false, S17))))
set_option maxRecDepth 100000 in
set_option maxHeartbeats 4000000 in
theorem l_X6_readItem_59 {X : KX} {g : KG} {q : Nat → Nat} {E : va_W} {res : Bool × CS} (C : kC X g cX6_readItem "MarkChains$ItemReader" rm_X6_readItem 5) (hR : ∀ (pc : Nat) (lv : List (Nat × Value)), decode cX6_readItem pc = .ok (.ireturn, 1) → jW X g (cx g q E res.2) 0 0 pc lv [.int (b2 res.1)]) (c1 : Int32) (c2 : Int32) (c3 : Int32) (k14 : CS → Option (Bool × CS)) (hk15 : ∀ (S28 : CS), jJ X g res (cx g q E S28) 0 0 153 [(0, .ref (q 25)), (2, .int c2)] [] (k14 S28)) : ∀ (n : Nat) (S11 : CS) (x10 : Int32), jJ X g res (cx g q E S11) 0 0 59 [(0, .ref (q 25)), (1, .int c1), (2, .int c2), (3, .int c3), (4, .int x10)] [] (L_X6_readItem_59 c1 c2 c3 k14 n S11 x10) := by
  refine r_lo2 (fun S11 x10 => cx g q E S11) (fun S11 x10 => [(0, .ref (q 25)), (1, .int c1), (2, .int c2), (3, .int c3), (4, .int x10)]) (fun rec12 ih13 S11 x10 => ?_)
  refine r_iload (pc := 59) C dX6_readItem_59 4 rfl ?_
  refine r_iload_n (pc := 61) C dX6_readItem_61 3 rfl ?_
  refine r_icmp_ge 153 (pc := 62) C dX6_readItem_62 (by decide) ?_ ?_
  · refine r_sub (lv' := [(0, .ref (q 25)), (2, .int c2)]) [0, 2] rfl ?_
    exact hk15 S11
  · refine r_aload_n (pc := 65) C dX6_readItem_65 0 rfl ?_
    refine xg_ir_tape (pc := 66) C kw_1_167 dX6_readItem_66 ?_
    refine r_cVwz (As := []) (st := []) (wf := cx g q E) (pc := 69) C (fun _ _ h => c_X10_readNumber h) kY_X10_readNumber kw_3_20 kw_3_21 kw_3_19 rfl ⟨Nat.le_of_ble_eq_true rfl, Nat.le_of_ble_eq_true rfl⟩ rfl rfl ⟨Nat.zero_le _, Nat.zero_le _⟩ 1 rfl rfl rfl (Nat.le_of_ble_eq_true rfl) dX6_readItem_69 (fun x16 S17 => ?_)
    refine r_ifb_ne 77 (pc := 72) C dX6_readItem_72 (by decide) ?_ ?_
    · refine r_aload_n (pc := 77) C dX6_readItem_77 0 rfl ?_
      refine r_iload_n (pc := 78) C dX6_readItem_78 2 rfl ?_
      refine r_iload (pc := 79) C dX6_readItem_79 4 rfl ?_
      refine r_aload_n (pc := 81) C dX6_readItem_81 0 rfl ?_
      refine xg_ir_tape (pc := 82) C kw_1_167 dX6_readItem_82 ?_
      refine xgN_tp_number (pc := 85) C knf_2 dX6_readItem_85 ?_
      refine r_iload_n (pc := 88) C dX6_readItem_88 1 rfl ?_
      refine r_cVpz (As := [.int c2, .int x10, .int (S17.1 3), .int c1]) (st := []) (pc := 89) C (fun _ h => c_X6_canBe h) kY_X6_canBe kw_3_35 kw_0_1 kw_3_33 rfl ⟨Nat.le_of_ble_eq_true rfl, Nat.le_of_ble_eq_true rfl⟩ rfl rfl ⟨Nat.zero_le _, Nat.zero_le _⟩ 25 rfl rfl rfl (Nat.le_of_ble_eq_true rfl) dX6_readItem_89 (fun x18 => ?_)
      refine r_ifb_ne 103 (pc := 92) C dX6_readItem_92 (by decide) ?_ ?_
      · refine r_aload_n (pc := 103) C dX6_readItem_103 0 rfl ?_
        refine xg_ir_tape (pc := 104) C kw_1_167 dX6_readItem_104 ?_
        refine r_iload (pc := 107) C dX6_readItem_107 4 rfl ?_
        refine r_iload_n (pc := 109) C dX6_readItem_109 3 rfl ?_
        refine r_iconst (pc := 110) C dX6_readItem_110 (v := 1) (by decide) ?_
        refine r_isub (pc := 111) C dX6_readItem_111 ?_
        refine r_jn1 122 (fun (x19 : Int32) => cx g q E S17) (fun (x19 : Int32) => [(0, .ref (q 25)), (1, .int c1), (2, .int c2), (3, .int c3), (4, .int x10)]) (fun (x19 : Int32) => [.int x19, .ref (q 1)]) (fun x19 => ?_) (fun k24 hk25 => ?_)
        · refine r_cVwz (As := [.int x19]) (st := []) (wf := cx g q E) (pc := 122) C (fun _ _ h => c_X10_pass h) kY_X10_pass kw_3_54 kw_3_55 kw_3_53 rfl ⟨Nat.le_of_ble_eq_true rfl, Nat.le_of_ble_eq_true rfl⟩ rfl rfl ⟨Nat.zero_le _, Nat.zero_le _⟩ 1 rfl rfl rfl (Nat.le_of_ble_eq_true rfl) dX6_readItem_122 (fun x20 S21 => ?_)
          refine r_ifb_ne 130 (pc := 125) C dX6_readItem_125 (by decide) ?_ ?_
          · refine r_aload_n (pc := 130) C dX6_readItem_130 0 rfl ?_
            refine xg_ir_book (pc := 131) C kw_1_168 dX6_readItem_131 ?_
            refine r_iload_n (pc := 134) C dX6_readItem_134 2 rfl ?_
            refine r_iload (pc := 135) C dX6_readItem_135 4 rfl ?_
            refine r_aload_n (pc := 137) C dX6_readItem_137 0 rfl ?_
            refine xg_ir_tape (pc := 138) C kw_1_167 dX6_readItem_138 ?_
            refine xgN_tp_number (pc := 141) C knf_2 dX6_readItem_141 ?_
            refine r_cVwv (As := [.int c2, .int x10, .int (S21.1 3)]) (st := []) (wf := cx g q E) (pc := 144) C (fun _ h => c_X1_draft h) kY_X1_draft kw_3_58 kw_3_59 kw_3_57 rfl ⟨Nat.le_of_ble_eq_true rfl, Nat.le_of_ble_eq_true rfl⟩ rfl rfl ⟨Nat.zero_le _, Nat.zero_le _⟩ 3 rfl rfl rfl (Nat.le_of_ble_eq_true rfl) dX6_readItem_144 (fun S22 => ?_)
            refine r_iinc (pc := 147) C dX6_readItem_147 (v := 1) (lv' := fun x23 => [(0, .ref (q 25)), (1, .int c1), (2, .int c2), (3, .int c3), (4, .int x23)]) 4 rfl (by decide) (by decide) [1, 2, 3, 4, 0] (fun _ => rfl) (fun x23 => ?_)
            refine r_goto 59 (pc := 150) C dX6_readItem_150 (by decide) ?_
            exact ih13 S22 x23
          · refine r_iconst (pc := 128) C dX6_readItem_128 (v := 0) (by decide) ?_
            exact r_retWZ hR rfl (pc := 129) dX6_readItem_129
        · refine r_icmp_ne 120 (pc := 112) C dX6_readItem_112 (by decide) ?_ ?_
          · refine r_bipush (pc := 120) C dX6_readItem_120 (v := 44) (by decide) ?_
            exact hk25 44
          · refine r_bipush (pc := 115) C dX6_readItem_115 (v := 59) (by decide) ?_
            refine r_goto 122 (pc := 117) C dX6_readItem_117 (by decide) ?_
            exact hk25 59
      · refine r_aload_n (pc := 95) C dX6_readItem_95 0 rfl ?_
        refine xg_ir_tape (pc := 96) C kw_1_167 dX6_readItem_96 ?_
        refine r_cVwz (As := []) (st := []) (wf := cx g q E) (pc := 99) C (fun _ _ h => c_X10_failAtNumber h) kY_X10_failAtNumber kw_3_50 kw_3_51 kw_3_49 rfl ⟨Nat.le_of_ble_eq_true rfl, Nat.le_of_ble_eq_true rfl⟩ rfl rfl ⟨Nat.zero_le _, Nat.zero_le _⟩ 1 rfl rfl rfl (Nat.le_of_ble_eq_true rfl) dX6_readItem_99 (fun x26 S27 => ?_)
        exact r_retWZ hR rfl (pc := 102) dX6_readItem_102
    · refine r_iconst (pc := 75) C dX6_readItem_75 (v := 0) (by decide) ?_
      exact r_retWZ hR rfl (pc := 76) dX6_readItem_76
set_option maxRecDepth 100000 in
theorem v_X6_readItem_59 {S0 : CS} {c1 : Int32} {c2 : Int32} {c3 : Int32} {k14 : CS → Option (Bool × CS)} (hk15 : ∀ (S28 : CS), (gI [2, 3, 4, 5, 6, 7, 8, 9] [5, 6, 8, 9, 11, 12, 13, 14, 15, 16, 17, 18, 19, 20, 21, 22, 23, 24] S0) S28 → jf (gI [2, 3, 4, 5, 6, 7, 8, 9] [5, 6, 8, 9, 11, 12, 13, 14, 15, 16, 17, 18, 19, 20, 21, 22, 23, 24] S0) Prod.snd (k14 S28)) : ∀ (n : Nat) (S11 : CS) (x10 : Int32), (gI [2, 3, 4, 5, 6, 7, 8, 9] [5, 6, 8, 9, 11, 12, 13, 14, 15, 16, 17, 18, 19, 20, 21, 22, 23, 24] S0) S11 → jf (gI [2, 3, 4, 5, 6, 7, 8, 9] [5, 6, 8, 9, 11, 12, 13, 14, 15, 16, 17, 18, 19, 20, 21, 22, 23, 24] S0) Prod.snd (L_X6_readItem_59 c1 c2 c3 k14 n S11 x10) := by
  refine f_lo2 (I := (gI [2, 3, 4, 5, 6, 7, 8, 9] [5, 6, 8, 9, 11, 12, 13, 14, 15, 16, 17, 18, 19, 20, 21, 22, 23, 24] S0)) (fun S11 x10 => S11) (fun rec12 ih13 S11 x10 hS11 => ?_)
  refine f_ite ?_ ?_
  · exact hk15 S11 hS11
  · refine f_bwS (fun _ _ h => gI_tr hS11 (w_X10_readNumber h) (by decide) (by decide)) (fun x16 S17 hS17 => ?_)
    refine f_ite ?_ ?_
    · refine f_bp (fun x18 => ?_)
      refine f_ite ?_ ?_
      · refine f_jm1 hS17 (fun x19 hS17 => ?_) (fun k24 hk25 => ?_)
        · refine f_bwS (fun _ _ h => gI_tr hS17 (w_X10_pass h) (by decide) (by decide)) (fun x20 S21 hS21 => ?_)
          refine f_ite ?_ ?_
          · refine f_bpS (fun _ h => gI_tr hS21 (w_X1_draft h) (by decide) (by decide)) (fun S22 hS22 => ?_)
            refine f_lt (fun x23 => ?_)
            exact ih13 S22 x23 hS22
          · exact f_some hS21
        · refine f_ite ?_ ?_
          · exact hk25 59 hS17
          · exact hk25 44 hS17
      · refine f_bwS (fun _ _ h => gI_tr hS17 (w_X10_failAtNumber h) (by decide) (by decide)) (fun x26 S27 hS27 => ?_)
        exact f_some hS27
    · exact f_some hS17
def f_X6_readItem (S : CS) (a1 : Int32) : Option (Bool × CS) :=
  bp (f_X10_peek S) (fun x1 =>
  bp (f_J0_indexOf_0f7a4_s0 ((x1.toUInt32 % 65536).toInt32)) (fun x2 =>
  jn0 (bw (f_X10_failHere S) (fun x3 S4 =>
  some (x3, S4))) (fun k5 =>
  (if x2 < 0 then
  k5
 else
  bp (f_X1_isFull S x2) (fun x7 =>
  (if x7 = true then
  k5
 else
  bp (f_X10_step S) (fun S8 =>
  jn1 (fun (x9 : Int32) =>
  L_X6_readItem_59 a1 x2 x9 (fun S29 =>
  bp (f_X1_settle S29 x2) (fun S30 =>
  some (true, S30))) FU S8 0) (fun k31 =>
  (if x2 = 3 then
  k31 9
 else
  k31 2)))))))))
set_option maxRecDepth 100000 in
set_option maxHeartbeats 4000000 in
theorem c_X6_readItem {g : KG} {q : Nat → Nat} {E : va_W} {S : CS} {a1 : Int32} {r : Bool} {S' : CS} (h : f_X6_readItem S a1 = some (r, S')) : ∀ l, kM l yX6_readItem cX6_readItem 5 (some .boolean) rm_X6_readItem g [.ref (q 25), .int a1] (cx g q E S) (cx g q E S') (some (.int (b2 r))) 0 0 := by
  refine k_open_z (own := "MarkChains$ItemReader") (by decide) rfl (Nat.le_of_ble_eq_true rfl) (fun X C hR => ?_)
  refine (?_ : jJ X g ((r, S') : Bool × CS) (cx g q E S) 0 0 0 [(0, .ref (q 25)), (1, .int a1)] [] (f_X6_readItem S a1)) h
  unfold f_X6_readItem
  refine r_str_0 (pc := 0) C dX6_readItem_0 ?_
  refine r_aload_n (pc := 2) C dX6_readItem_2 0 rfl ?_
  refine xg_ir_tape (pc := 3) C kw_1_167 dX6_readItem_3 ?_
  refine r_cVpi (As := []) (st := [.ref (g.2.2.2 5)]) (pc := 6) C (fun _ h => c_X10_peek h) kY_X10_peek kw_2_152 kw_2_153 kw_2_151 rfl ⟨Nat.le_of_ble_eq_true rfl, Nat.le_of_ble_eq_true rfl⟩ rfl rfl ⟨Nat.zero_le _, Nat.zero_le _⟩ 1 rfl rfl rfl (Nat.le_of_ble_eq_true rfl) dX6_readItem_6 (fun x1 => ?_)
  refine r_i2c (pc := 9) C dX6_readItem_9 ?_
  refine r_cT0pi (As := [.int ((x1.toUInt32 % 65536).toInt32)]) (st := []) (pc := 10) C (fun _ h => c_J0_indexOf_0f7a4_s0 h) kY_J0_indexOf_0f7a4 kw_2_156 kw_2_157 rfl kw_2_155 rfl ⟨Nat.le_of_ble_eq_true rfl, Nat.le_of_ble_eq_true rfl⟩ rfl rfl ⟨Nat.zero_le _, Nat.zero_le _⟩ rfl (Nat.le_of_ble_eq_true rfl) dX6_readItem_10 (fun x2 => ?_)
  refine r_istore_n (pc := 13) C dX6_readItem_13 (lv' := [(0, .ref (q 25)), (1, .int a1), (2, .int x2)]) (by decide) [1, 2, 0] rfl ?_
  refine r_iload_n (pc := 14) C dX6_readItem_14 2 rfl ?_
  refine r_jn0 29 (cx g q E S) ([(0, .ref (q 25))]) ([]) ?_ (fun k5 hk6 => ?_)
  · refine r_aload_n (pc := 29) C dX6_readItem_29 0 rfl ?_
    refine xg_ir_tape (pc := 30) C kw_1_167 dX6_readItem_30 ?_
    refine r_cVwz (As := []) (st := []) (wf := cx g q E) (pc := 33) C (fun _ _ h => c_X10_failHere h) kY_X10_failHere kw_3_12 kw_3_13 kw_3_11 rfl ⟨Nat.le_of_ble_eq_true rfl, Nat.le_of_ble_eq_true rfl⟩ rfl rfl ⟨Nat.zero_le _, Nat.zero_le _⟩ 1 rfl rfl rfl (Nat.le_of_ble_eq_true rfl) dX6_readItem_33 (fun x3 S4 => ?_)
    exact r_retWZ hR rfl (pc := 36) dX6_readItem_36
  · refine r_if_lt 29 (pc := 15) C dX6_readItem_15 (by decide) ?_ ?_
    · refine r_sub (lv' := [(0, .ref (q 25))]) [0] rfl ?_
      exact hk6
    · refine r_aload_n (pc := 18) C dX6_readItem_18 0 rfl ?_
      refine xg_ir_book (pc := 19) C kw_1_168 dX6_readItem_19 ?_
      refine r_iload_n (pc := 22) C dX6_readItem_22 2 rfl ?_
      refine r_cVpz (As := [.int x2]) (st := []) (pc := 23) C (fun _ h => c_X1_isFull h) kY_X1_isFull kw_3_0 kw_3_1 kw_2_239 rfl ⟨Nat.le_of_ble_eq_true rfl, Nat.le_of_ble_eq_true rfl⟩ rfl rfl ⟨Nat.zero_le _, Nat.zero_le _⟩ 3 rfl rfl rfl (Nat.le_of_ble_eq_true rfl) dX6_readItem_23 (fun x7 => ?_)
      refine r_ifb_eq 37 (pc := 26) C dX6_readItem_26 (by decide) ?_ ?_
      · refine r_aload_n (pc := 37) C dX6_readItem_37 0 rfl ?_
        refine xg_ir_tape (pc := 38) C kw_1_167 dX6_readItem_38 ?_
        refine r_cVwv (As := []) (st := []) (wf := cx g q E) (pc := 41) C (fun _ h => c_X10_step h) kY_X10_step kw_3_16 kw_3_17 kw_3_15 rfl ⟨Nat.le_of_ble_eq_true rfl, Nat.le_of_ble_eq_true rfl⟩ rfl rfl ⟨Nat.zero_le _, Nat.zero_le _⟩ 1 rfl rfl rfl (Nat.le_of_ble_eq_true rfl) dX6_readItem_41 (fun S8 => ?_)
        refine r_iload_n (pc := 44) C dX6_readItem_44 2 rfl ?_
        refine r_iconst (pc := 45) C dX6_readItem_45 (v := 3) (by decide) ?_
        refine r_jn1 55 (fun (x9 : Int32) => cx g q E S8) (fun (x9 : Int32) => [(0, .ref (q 25)), (1, .int a1), (2, .int x2)]) (fun (x9 : Int32) => [.int x9]) (fun x9 => ?_) (fun k31 hk32 => ?_)
        · refine r_istore_n (pc := 55) C dX6_readItem_55 (lv' := [(0, .ref (q 25)), (1, .int a1), (2, .int x2), (3, .int x9)]) (by decide) [1, 2, 3, 0] rfl ?_
          refine r_iconst (pc := 56) C dX6_readItem_56 (v := 0) (by decide) ?_
          refine r_istore (pc := 57) C dX6_readItem_57 (lv' := [(0, .ref (q 25)), (1, .int a1), (2, .int x2), (3, .int x9), (4, .int 0)]) (by decide) [1, 2, 3, 4, 0] rfl ?_
          refine l_X6_readItem_59 C hR a1 x2 x9 _ (fun S29 => ?_) FU S8 0
          refine r_aload_n (pc := 153) C dX6_readItem_153 0 rfl ?_
          refine xg_ir_book (pc := 154) C kw_1_168 dX6_readItem_154 ?_
          refine r_iload_n (pc := 157) C dX6_readItem_157 1 rfl ?_
          refine r_cVwv (As := [.int x2]) (st := []) (wf := cx g q E) (pc := 158) C (fun _ h => c_X1_settle h) kY_X1_settle kw_3_71 kw_3_72 kw_3_70 rfl ⟨Nat.le_of_ble_eq_true rfl, Nat.le_of_ble_eq_true rfl⟩ rfl rfl ⟨Nat.zero_le _, Nat.zero_le _⟩ 3 rfl rfl rfl (Nat.le_of_ble_eq_true rfl) dX6_readItem_158 (fun S30 => ?_)
          refine r_iconst (pc := 161) C dX6_readItem_161 (v := 1) (by decide) ?_
          exact r_retWZ hR rfl (pc := 162) dX6_readItem_162
        · refine r_icmp_ne 54 (pc := 46) C dX6_readItem_46 (by decide) ?_ ?_
          · refine r_iconst (pc := 54) C dX6_readItem_54 (v := 2) (by decide) ?_
            exact hk32 2
          · refine r_bipush (pc := 49) C dX6_readItem_49 (v := 9) (by decide) ?_
            refine r_goto 55 (pc := 51) C dX6_readItem_51 (by decide) ?_
            exact hk32 9
      · refine r_sub (lv' := [(0, .ref (q 25))]) [0] rfl ?_
        exact hk6
set_option maxRecDepth 100000 in
theorem w_X6_readItem {S : CS} {a1 : Int32} {r : Bool} {S' : CS} (h : f_X6_readItem S a1 = some (r, S')) : gI [2, 3, 4, 5, 6, 7, 8, 9] [5, 6, 8, 9, 11, 12, 13, 14, 15, 16, 17, 18, 19, 20, 21, 22, 23, 24] S S' := by
  have hS : gI [2, 3, 4, 5, 6, 7, 8, 9] [5, 6, 8, 9, 11, 12, 13, 14, 15, 16, 17, 18, 19, 20, 21, 22, 23, 24] S S := gI_rf
  refine (?_ : jf (gI [2, 3, 4, 5, 6, 7, 8, 9] [5, 6, 8, 9, 11, 12, 13, 14, 15, 16, 17, 18, 19, 20, 21, 22, 23, 24] S) Prod.snd (f_X6_readItem S a1)) _ h
  unfold f_X6_readItem
  refine f_bp (fun x1 => ?_)
  refine f_bp (fun x2 => ?_)
  refine f_jm0 hS (fun  hS => ?_) (fun k5 hk6 => ?_)
  · refine f_bwS (fun _ _ h => gI_tr hS (w_X10_failHere h) (by decide) (by decide)) (fun x3 S4 hS4 => ?_)
    exact f_some hS4
  · refine f_ite ?_ ?_
    · exact hk6 hS
    · refine f_bp (fun x7 => ?_)
      refine f_ite ?_ ?_
      · exact hk6 hS
      · refine f_bpS (fun _ h => gI_tr hS (w_X10_step h) (by decide) (by decide)) (fun S8 hS8 => ?_)
        refine f_jm1 hS8 (fun x9 hS8 => ?_) (fun k31 hk32 => ?_)
        · refine v_X6_readItem_59 (fun S29 hS29 => ?_) FU S8 0 hS8
          refine f_bpS (fun _ h => gI_tr hS29 (w_X1_settle h) (by decide) (by decide)) (fun S30 hS30 => ?_)
          exact f_some hS30
        · refine f_ite ?_ ?_
          · exact hk32 9 hS8
          · exact hk32 2 hS8
abbrev rm_X6_readItems : Room := { frames := 5, cells := 0, slots := 0, locals := 115 }
theorem kY_X6_readItems : kY yX6_readItems cX6_readItems 3 (some .int) 1 := ⟨kw_1_6, kw_2_141, by decide, by decide, by decide +kernel⟩
def L_X6_readItems_2 (c1 : Int32) (k5 : CS → Int32 → Option (Int32 × CS)) : Nat → CS → Int32 → Option (Int32 × CS) := lo2 fun rec3 S2 x1 =>
  (if 600 ≤ x1 then
  k5 S2 x1
 else
  bp (f_X10_isOver S2) (fun x7 =>
  (if x7 = true then
  k5 S2 x1
 else
  bw (f_X6_readItem S2 c1) (fun x8 S9 =>
  (if x8 = true then
  lt (x1 + 1) fun x10 =>
  rec3 S9 x10
 else
  some ((-1), S9))))))
set_option maxRecDepth 100000 in
set_option maxHeartbeats 4000000 in
theorem l_X6_readItems_2 {X : KX} {g : KG} {q : Nat → Nat} {E : va_W} {res : Int32 × CS} (C : kC X g cX6_readItems "MarkChains$ItemReader" rm_X6_readItems 3) (hR : ∀ (pc : Nat) (lv : List (Nat × Value)), decode cX6_readItems pc = .ok (.ireturn, 1) → jW X g (cx g q E res.2) 0 0 pc lv [.int res.1]) (c1 : Int32) (k5 : CS → Int32 → Option (Int32 × CS)) (hk6 : ∀ (S11 : CS) (x12 : Int32), jJ X g res (cx g q E S11) 0 0 35 [(2, .int x12)] [] (k5 S11 x12)) : ∀ (n : Nat) (S2 : CS) (x1 : Int32), jJ X g res (cx g q E S2) 0 0 2 [(0, .ref (q 25)), (1, .int c1), (2, .int x1)] [] (L_X6_readItems_2 c1 k5 n S2 x1) := by
  refine r_lo2 (fun S2 x1 => cx g q E S2) (fun S2 x1 => [(0, .ref (q 25)), (1, .int c1), (2, .int x1)]) (fun rec3 ih4 S2 x1 => ?_)
  refine r_iload_n (pc := 2) C dX6_readItems_2 2 rfl ?_
  refine r_sipush (pc := 3) C dX6_readItems_3 (v := 600) (by decide) ?_
  refine r_icmp_ge 35 (pc := 6) C dX6_readItems_6 (by decide) ?_ ?_
  · refine r_sub (lv' := [(2, .int x1)]) [2] rfl ?_
    exact hk6 S2 x1
  · refine r_aload_n (pc := 9) C dX6_readItems_9 0 rfl ?_
    refine xg_ir_tape (pc := 10) C kw_1_167 dX6_readItems_10 ?_
    refine r_cVpz (As := []) (st := []) (pc := 13) C (fun _ h => c_X10_isOver h) kY_X10_isOver kw_2_143 kw_2_144 kw_2_142 rfl ⟨Nat.le_of_ble_eq_true rfl, Nat.le_of_ble_eq_true rfl⟩ rfl rfl ⟨Nat.zero_le _, Nat.zero_le _⟩ 1 rfl rfl rfl (Nat.le_of_ble_eq_true rfl) dX6_readItems_13 (fun x7 => ?_)
    refine r_ifb_ne 35 (pc := 16) C dX6_readItems_16 (by decide) ?_ ?_
    · refine r_sub (lv' := [(2, .int x1)]) [2] rfl ?_
      exact hk6 S2 x1
    · refine r_aload_n (pc := 19) C dX6_readItems_19 0 rfl ?_
      refine r_iload_n (pc := 20) C dX6_readItems_20 1 rfl ?_
      refine r_cVwz (As := [.int c1]) (st := []) (wf := cx g q E) (pc := 21) C (fun _ _ h => c_X6_readItem h) kY_X6_readItem kw_2_148 kw_0_0 kw_2_146 rfl ⟨Nat.le_of_ble_eq_true rfl, Nat.le_of_ble_eq_true rfl⟩ rfl rfl ⟨Nat.zero_le _, Nat.zero_le _⟩ 25 rfl rfl rfl (Nat.le_of_ble_eq_true rfl) dX6_readItems_21 (fun x8 S9 => ?_)
      refine r_ifb_ne 29 (pc := 24) C dX6_readItems_24 (by decide) ?_ ?_
      · refine r_iinc (pc := 29) C dX6_readItems_29 (v := 1) (lv' := fun x10 => [(0, .ref (q 25)), (1, .int c1), (2, .int x10)]) 2 rfl (by decide) (by decide) [1, 2, 0] (fun _ => rfl) (fun x10 => ?_)
        refine r_goto 2 (pc := 32) C dX6_readItems_32 (by decide) ?_
        exact ih4 S9 x10
      · refine r_iconst (pc := 27) C dX6_readItems_27 (v := (-1)) (by decide) ?_
        exact r_retWI (wf := cx g q E) hR (pc := 28) dX6_readItems_28
set_option maxRecDepth 100000 in
theorem v_X6_readItems_2 {S0 : CS} {c1 : Int32} {k5 : CS → Int32 → Option (Int32 × CS)} (hk6 : ∀ (S11 : CS) (x12 : Int32), (gI [2, 3, 4, 5, 6, 7, 8, 9] [5, 6, 8, 9, 11, 12, 13, 14, 15, 16, 17, 18, 19, 20, 21, 22, 23, 24] S0) S11 → jf (gI [2, 3, 4, 5, 6, 7, 8, 9] [5, 6, 8, 9, 11, 12, 13, 14, 15, 16, 17, 18, 19, 20, 21, 22, 23, 24] S0) Prod.snd (k5 S11 x12)) : ∀ (n : Nat) (S2 : CS) (x1 : Int32), (gI [2, 3, 4, 5, 6, 7, 8, 9] [5, 6, 8, 9, 11, 12, 13, 14, 15, 16, 17, 18, 19, 20, 21, 22, 23, 24] S0) S2 → jf (gI [2, 3, 4, 5, 6, 7, 8, 9] [5, 6, 8, 9, 11, 12, 13, 14, 15, 16, 17, 18, 19, 20, 21, 22, 23, 24] S0) Prod.snd (L_X6_readItems_2 c1 k5 n S2 x1) := by
  refine f_lo2 (I := (gI [2, 3, 4, 5, 6, 7, 8, 9] [5, 6, 8, 9, 11, 12, 13, 14, 15, 16, 17, 18, 19, 20, 21, 22, 23, 24] S0)) (fun S2 x1 => S2) (fun rec3 ih4 S2 x1 hS2 => ?_)
  refine f_ite ?_ ?_
  · exact hk6 S2 x1 hS2
  · refine f_bp (fun x7 => ?_)
    refine f_ite ?_ ?_
    · exact hk6 S2 x1 hS2
    · refine f_bwS (fun _ _ h => gI_tr hS2 (w_X6_readItem h) (by decide) (by decide)) (fun x8 S9 hS9 => ?_)
      refine f_ite ?_ ?_
      · refine f_lt (fun x10 => ?_)
        exact ih4 S9 x10 hS9
      · exact f_some hS9
def f_X6_readItems (S : CS) (a1 : Int32) : Option (Int32 × CS) :=
  L_X6_readItems_2 a1 (fun S13 x14 =>
  some (x14, S13)) FU S 0
set_option maxRecDepth 100000 in
set_option maxHeartbeats 4000000 in
theorem c_X6_readItems {g : KG} {q : Nat → Nat} {E : va_W} {S : CS} {a1 : Int32} {r : Int32} {S' : CS} (h : f_X6_readItems S a1 = some (r, S')) : ∀ l, kM l yX6_readItems cX6_readItems 3 (some .int) rm_X6_readItems g [.ref (q 25), .int a1] (cx g q E S) (cx g q E S') (some (.int r)) 0 0 := by
  refine k_open_i (own := "MarkChains$ItemReader") (by decide) rfl (Nat.le_of_ble_eq_true rfl) (fun X C hR => ?_)
  refine (?_ : jJ X g ((r, S') : Int32 × CS) (cx g q E S) 0 0 0 [(0, .ref (q 25)), (1, .int a1)] [] (f_X6_readItems S a1)) h
  unfold f_X6_readItems
  refine r_iconst (pc := 0) C dX6_readItems_0 (v := 0) (by decide) ?_
  refine r_istore_n (pc := 1) C dX6_readItems_1 (lv' := [(0, .ref (q 25)), (1, .int a1), (2, .int 0)]) (by decide) [1, 2, 0] rfl ?_
  refine l_X6_readItems_2 C hR a1 _ (fun S13 x14 => ?_) FU S 0
  refine r_iload_n (pc := 35) C dX6_readItems_35 0 rfl ?_
  exact r_retWI (wf := cx g q E) hR (pc := 36) dX6_readItems_36
set_option maxRecDepth 100000 in
theorem w_X6_readItems {S : CS} {a1 : Int32} {r : Int32} {S' : CS} (h : f_X6_readItems S a1 = some (r, S')) : gI [2, 3, 4, 5, 6, 7, 8, 9] [5, 6, 8, 9, 11, 12, 13, 14, 15, 16, 17, 18, 19, 20, 21, 22, 23, 24] S S' := by
  have hS : gI [2, 3, 4, 5, 6, 7, 8, 9] [5, 6, 8, 9, 11, 12, 13, 14, 15, 16, 17, 18, 19, 20, 21, 22, 23, 24] S S := gI_rf
  refine (?_ : jf (gI [2, 3, 4, 5, 6, 7, 8, 9] [5, 6, 8, 9, 11, 12, 13, 14, 15, 16, 17, 18, 19, 20, 21, 22, 23, 24] S) Prod.snd (f_X6_readItems S a1)) _ h
  unfold f_X6_readItems
  refine v_X6_readItems_2 (fun S13 x14 hS13 => ?_) FU S 0 hS
  exact f_some hS13
abbrev rm_X11_fault : Room := { frames := 0, cells := 0, slots := 0, locals := 0 }
theorem kY_X11_fault : kY yX11_fault cX11_fault 1 (some .int) 0 := ⟨kw_1_1, kw_3_223, by decide, by decide, by decide +kernel⟩
def f_X11_fault (S : CS) : Option (Int32) :=
  some (S.1 5)
set_option maxRecDepth 100000 in
set_option maxHeartbeats 4000000 in
theorem c_X11_fault {g : KG} {q : Nat → Nat} {E : va_W} {S : CS}  {r : Int32} (h : f_X11_fault S = some r) : ∀ l, kM l yX11_fault cX11_fault 1 (some .int) rm_X11_fault g [.ref (q 0)] (cx g q E S) (cx g q E S) (some (.int r)) 0 0 := by
  refine k_open_i (own := "MarkChains") (by decide) rfl (Nat.le_of_ble_eq_true rfl) (fun X C hR => ?_)
  refine (?_ : jJ X g (r : Int32) (cx g q E S) 0 0 0 [(0, .ref (q 0))] [] (f_X11_fault S)) h
  unfold f_X11_fault
  refine r_aload_n (pc := 0) C dX11_fault_0 0 rfl ?_
  refine xg_x_tape (pc := 1) C kw_2_74 dX11_fault_1 ?_
  refine xgN_tp_fault (pc := 4) C knf_4 dX11_fault_4 ?_
  exact r_retPI hR (pc := 7) dX11_fault_7
abbrev rm_X4_parts_nf : Room := { frames := 0, cells := 0, slots := 0, locals := 0 }
theorem kY_X4_parts : kY yX4_parts cX4_parts 1 (some .int) 0 := ⟨kw_1_12, kw_3_219, by decide, by decide, by decide +kernel⟩
def f_X4_parts_nf (S : CS) : Option (Int32) :=
  some (nI (S.2.2 47))
set_option maxRecDepth 100000 in
set_option maxHeartbeats 4000000 in
theorem c_X4_parts_nf {g : KG} {q : Nat → Nat} {E : va_W} {S : CS}  {r : Int32} (h : f_X4_parts_nf S = some r) : ∀ l, kM l yX4_parts cX4_parts 1 (some .int) rm_X4_parts_nf g [.ref (q 45)] (cx g q E S) (cx g q E S) (some (.int r)) 0 0 := by
  refine k_open_i (own := "MarkChains$Formula") (by decide) rfl (Nat.le_of_ble_eq_true rfl) (fun X C hR => ?_)
  refine (?_ : jJ X g (r : Int32) (cx g q E S) 0 0 0 [(0, .ref (q 45))] [] (f_X4_parts_nf S)) h
  unfold f_X4_parts_nf
  refine r_aload_n (pc := 0) C dX4_parts_0 0 rfl ?_
  refine xg_nf_ends (pc := 1) C kw_2_62 dX4_parts_1 ?_
  refine xn_nf_ends (pc := 4) C dX4_parts_4 ?_
  exact r_retPI hR (pc := 5) dX4_parts_5
abbrev rm_X1_isStanding : Room := { frames := 0, cells := 0, slots := 0, locals := 0 }
theorem kY_X1_isStanding : kY yX1_isStanding cX1_isStanding 3 (some .boolean) 2 := ⟨kw_1_3, kw_3_235, by decide, by decide, by decide +kernel⟩
def f_X1_isStanding (S : CS) (a1 : Int32) (a2 : Int32) : Option (Bool) :=
  chk a1 60 (
  (if (S.2.1 22 a1.toNatClampNeg) = (-1) then
  some false
 else
  chk a1 60 (
  (if a2 < (S.2.1 22 a1.toNatClampNeg) then
  some false
 else
  chk a1 60 (
  (if (S.2.1 23 a1.toNatClampNeg) = (-1) then
  some true
 else
  chk a1 60 (
  (if (S.2.1 23 a1.toNatClampNeg) ≤ a2 then
  some false
 else
  some true))))))))
set_option maxRecDepth 100000 in
set_option maxHeartbeats 4000000 in
theorem c_X1_isStanding {g : KG} {q : Nat → Nat} {E : va_W} {S : CS} {a1 : Int32} {a2 : Int32} {r : Bool} (h : f_X1_isStanding S a1 a2 = some r) : ∀ l, kM l yX1_isStanding cX1_isStanding 3 (some .boolean) rm_X1_isStanding g [.ref (q 3), .int a1, .int a2] (cx g q E S) (cx g q E S) (some (.int (b2 r))) 0 0 := by
  refine k_open_z (own := "MarkChains$Book") (by decide) rfl (Nat.le_of_ble_eq_true rfl) (fun X C hR => ?_)
  refine (?_ : jJ X g (r : Bool) (cx g q E S) 0 0 0 [(0, .ref (q 3)), (1, .int a1), (2, .int a2)] [] (f_X1_isStanding S a1 a2)) h
  unfold f_X1_isStanding
  refine r_aload_n (pc := 0) C dX1_isStanding_0 0 rfl ?_
  refine xg_bk_ratified (pc := 1) C kw_1_119 dX1_isStanding_1 ?_
  refine r_iload_n (pc := 4) C dX1_isStanding_4 1 rfl ?_
  refine xl_bk_ratified (pc := 5) C dX1_isStanding_5 ?_
  refine r_iconst (pc := 6) C dX1_isStanding_6 (v := (-1)) (by decide) ?_
  refine r_icmp_eq 44 (pc := 7) C dX1_isStanding_7 (by decide) ?_ ?_
  · refine r_iconst (pc := 44) C dX1_isStanding_44 (v := 0) (by decide) ?_
    exact r_retPZ hR rfl (pc := 45) dX1_isStanding_45
  · refine r_aload_n (pc := 10) C dX1_isStanding_10 0 rfl ?_
    refine xg_bk_ratified (pc := 11) C kw_1_119 dX1_isStanding_11 ?_
    refine r_iload_n (pc := 14) C dX1_isStanding_14 1 rfl ?_
    refine xl_bk_ratified (pc := 15) C dX1_isStanding_15 ?_
    refine r_iload_n (pc := 16) C dX1_isStanding_16 2 rfl ?_
    refine r_icmp_gt 44 (pc := 17) C dX1_isStanding_17 (by decide) ?_ ?_
    · refine r_iconst (pc := 44) C dX1_isStanding_44 (v := 0) (by decide) ?_
      exact r_retPZ hR rfl (pc := 45) dX1_isStanding_45
    · refine r_aload_n (pc := 20) C dX1_isStanding_20 0 rfl ?_
      refine xg_bk_struck (pc := 21) C kw_1_121 dX1_isStanding_21 ?_
      refine r_iload_n (pc := 24) C dX1_isStanding_24 1 rfl ?_
      refine xl_bk_struck (pc := 25) C dX1_isStanding_25 ?_
      refine r_iconst (pc := 26) C dX1_isStanding_26 (v := (-1)) (by decide) ?_
      refine r_icmp_eq 40 (pc := 27) C dX1_isStanding_27 (by decide) ?_ ?_
      · refine r_iconst (pc := 40) C dX1_isStanding_40 (v := 1) (by decide) ?_
        refine r_goto 45 (pc := 41) C dX1_isStanding_41 (by decide) ?_
        exact r_retPZ hR rfl (pc := 45) dX1_isStanding_45
      · refine r_aload_n (pc := 30) C dX1_isStanding_30 0 rfl ?_
        refine xg_bk_struck (pc := 31) C kw_1_121 dX1_isStanding_31 ?_
        refine r_iload_n (pc := 34) C dX1_isStanding_34 1 rfl ?_
        refine xl_bk_struck (pc := 35) C dX1_isStanding_35 ?_
        refine r_iload_n (pc := 36) C dX1_isStanding_36 2 rfl ?_
        refine r_icmp_le 44 (pc := 37) C dX1_isStanding_37 (by decide) ?_ ?_
        · refine r_iconst (pc := 44) C dX1_isStanding_44 (v := 0) (by decide) ?_
          exact r_retPZ hR rfl (pc := 45) dX1_isStanding_45
        · refine r_iconst (pc := 40) C dX1_isStanding_40 (v := 1) (by decide) ?_
          refine r_goto 45 (pc := 41) C dX1_isStanding_41 (by decide) ?_
          exact r_retPZ hR rfl (pc := 45) dX1_isStanding_45
