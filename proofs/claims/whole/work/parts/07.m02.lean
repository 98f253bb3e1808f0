abbrev rm_X12_readCond : Room := { frames := 6, cells := 0, slots := 0, locals := 126 }
theorem kY_X12_readCond : kY yX12_readCond cX12_readCond 2 (some .boolean) 0 := ⟨kw_1_13, kw_6_204, by decide, by decide, by decide +kernel⟩
def L_X12_readCond_19 : Nat → MS → Option (Bool × MS) := lo1 fun rec5 S4 =>
  bp (f_X12_here S4) (fun x7 =>
  jn0 (bw (f_X12_readOpen S4) (fun x8 S9 =>
  (if x8 = true then
  rec5 S9
 else
  some (false, S9)))) (fun k10 =>
  (if x7 = 33 then
  k10
 else
  bp (f_X12_here S4) (fun x12 =>
  (if x12 = 40 then
  k10
 else
  bw (f_X12_readCompared S4) (fun x13 S14 =>
  (if x13 = true then
  bw (f_X12_behindTest S14) (fun x15 S16 =>
  (if x15 = 0 then
  bw (f_X12_takes S16 59) (fun x18 S19 =>
  some (x18, S19))
 else
  (if x15 = (-1) then
  some (false, S16)
 else
  lt (si S16 6 ((S16.1 6) + 1)) fun S17 =>
  rec5 S17)))
 else
  some (false, S14))))))))
set_option maxRecDepth 100000 in
set_option maxHeartbeats 4000000 in
theorem l_X12_readCond_19 {X : KX} {g : KG} {q : Nat → Nat} {res : Bool × MS} (C : kC X g cX12_readCond "MarkChainsModel" rm_X12_readCond 2) (hR : ∀ (pc : Nat) (lv : List (Nat × Value)), decode cX12_readCond pc = .ok (.ireturn, 1) → jW X g (mw g q res.2) 0 0 pc lv [.int (b2 res.1)]) : ∀ (n : Nat) (S4 : MS), jJ X g res (mw g q S4) 0 0 19 [(0, .ref (q 0))] [] (L_X12_readCond_19 n S4) := by
  refine r_lo1 (fun S4 => mw g q S4) (fun S4 => [(0, .ref (q 0))]) (fun rec5 ih6 S4 => ?_)
  refine r_aload_n (pc := 19) C dX12_readCond_19 0 rfl ?_
  refine r_cVpi (As := []) (st := []) (pc := 20) C (fun _ h => c_X12_here h) kY_X12_here kw_6_148 kw_0_41 kw_6_146 rfl ⟨Nat.le_of_ble_eq_true rfl, Nat.le_of_ble_eq_true rfl⟩ rfl rfl ⟨Nat.zero_le _, Nat.zero_le _⟩ 0 rfl rfl rfl (Nat.le_of_ble_eq_true rfl) dX12_readCond_20 (fun x7 => ?_)
  refine r_bipush (pc := 23) C dX12_readCond_23 (v := 33) (by decide) ?_
  refine r_jn0 37 (mw g q S4) ([(0, .ref (q 0))]) ([]) ?_ (fun k10 hk11 => ?_)
  · refine r_aload_n (pc := 37) C dX12_readCond_37 0 rfl ?_
    refine r_cVwz (As := []) (st := []) (wf := mw g q) (pc := 38) C (fun _ _ h => c_X12_readOpen h) kY_X12_readOpen kw_6_207 kw_0_53 kw_6_205 rfl ⟨Nat.le_of_ble_eq_true rfl, Nat.le_of_ble_eq_true rfl⟩ rfl rfl ⟨Nat.zero_le _, Nat.zero_le _⟩ 0 rfl rfl rfl (Nat.le_of_ble_eq_true rfl) dX12_readCond_38 (fun x8 S9 => ?_)
    refine r_ifb_ne 19 (pc := 41) C dX12_readCond_41 (by decide) ?_ ?_
    · exact ih6 S9
    · refine r_iconst (pc := 44) C dX12_readCond_44 (v := 0) (by decide) ?_
      exact r_retWZ hR rfl (pc := 45) dX12_readCond_45
  · refine r_icmp_eq 37 (pc := 25) C dX12_readCond_25 (by decide) ?_ ?_
    · exact hk11
    · refine r_aload_n (pc := 28) C dX12_readCond_28 0 rfl ?_
      refine r_cVpi (As := []) (st := []) (pc := 29) C (fun _ h => c_X12_here h) kY_X12_here kw_6_148 kw_0_41 kw_6_146 rfl ⟨Nat.le_of_ble_eq_true rfl, Nat.le_of_ble_eq_true rfl⟩ rfl rfl ⟨Nat.zero_le _, Nat.zero_le _⟩ 0 rfl rfl rfl (Nat.le_of_ble_eq_true rfl) dX12_readCond_29 (fun x12 => ?_)
      refine r_bipush (pc := 32) C dX12_readCond_32 (v := 40) (by decide) ?_
      refine r_icmp_ne 46 (pc := 34) C dX12_readCond_34 (by decide) ?_ ?_
      · refine r_aload_n (pc := 46) C dX12_readCond_46 0 rfl ?_
        refine r_cVwz (As := []) (st := []) (wf := mw g q) (pc := 47) C (fun _ _ h => c_X12_readCompared h) kY_X12_readCompared kw_6_211 kw_0_54 kw_6_209 rfl ⟨Nat.le_of_ble_eq_true rfl, Nat.le_of_ble_eq_true rfl⟩ rfl rfl ⟨Nat.zero_le _, Nat.zero_le _⟩ 0 rfl rfl rfl (Nat.le_of_ble_eq_true rfl) dX12_readCond_47 (fun x13 S14 => ?_)
        refine r_ifb_ne 55 (pc := 50) C dX12_readCond_50 (by decide) ?_ ?_
        · refine r_aload_n (pc := 55) C dX12_readCond_55 0 rfl ?_
          refine r_cVwi (As := []) (st := []) (wf := mw g q) (pc := 56) C (fun _ _ h => c_X12_behindTest h) kY_X12_behindTest kw_6_236 kw_0_59 kw_6_234 rfl ⟨Nat.le_of_ble_eq_true rfl, Nat.le_of_ble_eq_true rfl⟩ rfl rfl ⟨Nat.zero_le _, Nat.zero_le _⟩ 0 rfl rfl rfl (Nat.le_of_ble_eq_true rfl) dX12_readCond_56 (fun x15 S16 => ?_)
          refine r_istore_n (pc := 59) C dX12_readCond_59 (lv' := [(0, .ref (q 0)), (1, .int x15)]) (by decide) [1, 0] rfl ?_
          refine r_iload_n (pc := 60) C dX12_readCond_60 1 rfl ?_
          refine r_if_ne 71 (pc := 61) C dX12_readCond_61 (by decide) ?_ ?_
          · refine r_iload_n (pc := 71) C dX12_readCond_71 1 rfl ?_
            refine r_iconst (pc := 72) C dX12_readCond_72 (v := (-1)) (by decide) ?_
            refine r_icmp_ne 78 (pc := 73) C dX12_readCond_73 (by decide) ?_ ?_
            · refine r_aload_n (pc := 78) C dX12_readCond_78 0 rfl ?_
              refine r_dup (pc := 79) C dX12_readCond_79 rfl ?_
              refine mg_at (pc := 80) C dX12_readCond_80 ?_
              refine r_iconst (pc := 83) C dX12_readCond_83 (v := 1) (by decide) ?_
              refine r_iadd (pc := 84) C dX12_readCond_84 ?_
              refine mp_at (pc := 85) C dX12_readCond_85 (fun S17 => ?_)
              refine r_goto 19 (pc := 88) C dX12_readCond_88 (by decide) ?_
              refine r_sub (lv' := [(0, .ref (q 0))]) [0] rfl ?_
              exact ih6 S17
            · refine r_iconst (pc := 76) C dX12_readCond_76 (v := 0) (by decide) ?_
              exact r_retWZ hR rfl (pc := 77) dX12_readCond_77
          · refine r_aload_n (pc := 64) C dX12_readCond_64 0 rfl ?_
            refine r_bipush (pc := 65) C dX12_readCond_65 (v := 59) (by decide) ?_
            refine r_cVwz (As := [.int 59]) (st := []) (wf := mw g q) (pc := 67) C (fun _ _ h => c_X12_takes h) kY_X12_takes kw_6_171 kw_0_46 kw_6_169 rfl ⟨Nat.le_of_ble_eq_true rfl, Nat.le_of_ble_eq_true rfl⟩ rfl rfl ⟨Nat.zero_le _, Nat.zero_le _⟩ 0 rfl rfl rfl (Nat.le_of_ble_eq_true rfl) dX12_readCond_67 (fun x18 S19 => ?_)
            exact r_retWZ hR rfl (pc := 70) dX12_readCond_70
        · refine r_iconst (pc := 53) C dX12_readCond_53 (v := 0) (by decide) ?_
          exact r_retWZ hR rfl (pc := 54) dX12_readCond_54
      · exact hk11
set_option maxRecDepth 100000 in
theorem v_X12_readCond_19 {S0 : MS} : ∀ (n : Nat) (S4 : MS), (fI [6, 7, 8, 11, 12, 16] [9, 13, 14, 15] S0) S4 → jf (fI [6, 7, 8, 11, 12, 16] [9, 13, 14, 15] S0) Prod.snd (L_X12_readCond_19 n S4) := by
  refine f_lo1 (I := (fI [6, 7, 8, 11, 12, 16] [9, 13, 14, 15] S0)) (fun S4 => S4) (fun rec5 ih6 S4 hS4 => ?_)
  refine f_bp (fun x7 => ?_)
  refine f_jm0 hS4 (fun  hS4 => ?_) (fun k10 hk11 => ?_)
  · refine f_bwS (fun _ _ h => fI_tr hS4 (w_X12_readOpen h) (by decide) (by decide)) (fun x8 S9 hS9 => ?_)
    refine f_ite ?_ ?_
    · exact ih6 S9 hS9
    · exact f_some hS9
  · refine f_ite ?_ ?_
    · exact hk11 hS4
    · refine f_bp (fun x12 => ?_)
      refine f_ite ?_ ?_
      · exact hk11 hS4
      · refine f_bwS (fun _ _ h => fI_tr hS4 (w_X12_readCompared h) (by decide) (by decide)) (fun x13 S14 hS14 => ?_)
        refine f_ite ?_ ?_
        · refine f_bwS (fun _ _ h => fI_tr hS14 (w_X12_behindTest h) (by decide) (by decide)) (fun x15 S16 hS16 => ?_)
          refine f_ite ?_ ?_
          · refine f_bwS (fun _ _ h => fI_tr hS16 (w_X12_takes h) (by decide) (by decide)) (fun x18 S19 hS19 => ?_)
            exact f_some hS19
          · refine f_ite ?_ ?_
            · exact f_some hS16
            · refine f_ltS (fI_si hS16 (by decide)) (fun S17 hS17 => ?_)
              exact ih6 S17 hS17
        · exact f_some hS14
def f_X12_readCond (S : MS) : Option (Bool × MS) :=
  lt (si S 16 0) fun S1 =>
  chk 0 7 (lt (sa S1 14 (upd (S1.2 14) (0 : Int32).toNatClampNeg (vp_nar .boolean 0))) fun S2 =>
  chk 0 7 (lt (sa S2 15 (upd (S2.2 15) (0 : Int32).toNatClampNeg (vp_nar .boolean 0))) fun S3 =>
  L_X12_readCond_19 FU S3))
set_option maxRecDepth 100000 in
set_option maxHeartbeats 4000000 in
theorem c_X12_readCond {g : KG} {q : Nat → Nat} {S : MS}  {r : Bool} {S' : MS} (h : f_X12_readCond S = some (r, S')) : ∀ l, kM l yX12_readCond cX12_readCond 2 (some .boolean) rm_X12_readCond g [.ref (q 0)] (mw g q S) (mw g q S') (some (.int (b2 r))) 0 0 := by
  refine k_open_z (own := "MarkChainsModel") (by decide) rfl (Nat.le_of_ble_eq_true rfl) (fun X C hR => ?_)
  refine (?_ : jJ X g ((r, S') : Bool × MS) (mw g q S) 0 0 0 [(0, .ref (q 0))] [] (f_X12_readCond S)) h
  unfold f_X12_readCond
  refine r_aload_n (pc := 0) C dX12_readCond_0 0 rfl ?_
  refine r_iconst (pc := 1) C dX12_readCond_1 (v := 0) (by decide) ?_
  refine mp_opens (pc := 2) C dX12_readCond_2 (fun S1 => ?_)
  refine r_aload_n (pc := 5) C dX12_readCond_5 0 rfl ?_
  refine mg_andWaits (pc := 6) C dX12_readCond_6 ?_
  refine r_iconst (pc := 9) C dX12_readCond_9 (v := 0) (by decide) ?_
  refine r_iconst (pc := 10) C dX12_readCond_10 (v := 0) (by decide) ?_
  refine ms_andWaits (pc := 11) C dX12_readCond_11 (fun S2 => ?_)
  refine r_aload_n (pc := 12) C dX12_readCond_12 0 rfl ?_
  refine mg_orWaits (pc := 13) C dX12_readCond_13 ?_
  refine r_iconst (pc := 16) C dX12_readCond_16 (v := 0) (by decide) ?_
  refine r_iconst (pc := 17) C dX12_readCond_17 (v := 0) (by decide) ?_
  refine ms_orWaits (pc := 18) C dX12_readCond_18 (fun S3 => ?_)
  exact l_X12_readCond_19 C hR FU S3
set_option maxRecDepth 100000 in
theorem w_X12_readCond {S : MS}  {r : Bool} {S' : MS} (h : f_X12_readCond S = some (r, S')) : fI [6, 7, 8, 11, 12, 16] [9, 13, 14, 15] S S' := by
  have hS : fI [6, 7, 8, 11, 12, 16] [9, 13, 14, 15] S S := fI_rf
  refine (?_ : jf (fI [6, 7, 8, 11, 12, 16] [9, 13, 14, 15] S) Prod.snd (f_X12_readCond S)) _ h
  unfold f_X12_readCond
  refine f_ltS (fI_si hS (by decide)) (fun S1 hS1 => ?_)
  refine f_chk (f_ltS (fI_sa hS1 (by decide)) (fun S2 hS2 => ?_))
  refine f_chk (f_ltS (fI_sa hS2 (by decide)) (fun S3 hS3 => ?_))
  exact v_X12_readCond_19 FU S3 hS3
abbrev rm_X12_beginCode : Room := { frames := 1, cells := 0, slots := 0, locals := 20 }
theorem kY_X12_beginCode : kY yX12_beginCode cX12_beginCode 1 none 0 := ⟨kw_1_13, kw_6_200, by decide, by decide, by decide +kernel⟩
def f_X12_beginCode (S : MS) : Option (MS) :=
  bp (f_X12_beginText S) (fun S1 =>
  lt (si S1 11 0) fun S2 =>
  lt (si S2 12 0) fun S3 =>
  some S3)
set_option maxRecDepth 100000 in
set_option maxHeartbeats 4000000 in
theorem c_X12_beginCode {g : KG} {q : Nat → Nat} {S : MS}  {S' : MS} (h : f_X12_beginCode S = some S') : ∀ l, kM l yX12_beginCode cX12_beginCode 1 none rm_X12_beginCode g [.ref (q 0)] (mw g q S) (mw g q S') (none) 0 0 := by
  refine k_open_v (own := "MarkChainsModel") (by decide) rfl (Nat.le_of_ble_eq_true rfl) (fun X C hR => ?_)
  refine (?_ : jJ X g (S' : MS) (mw g q S) 0 0 0 [(0, .ref (q 0))] [] (f_X12_beginCode S)) h
  unfold f_X12_beginCode
  refine r_aload_n (pc := 0) C dX12_beginCode_0 0 rfl ?_
  refine r_cVwv (As := []) (st := []) (wf := mw g q) (pc := 1) C (fun _ h => c_X12_beginText h) kY_X12_beginText kw_6_140 kw_0_39 kw_6_138 rfl ⟨Nat.le_of_ble_eq_true rfl, Nat.le_of_ble_eq_true rfl⟩ rfl rfl ⟨Nat.zero_le _, Nat.zero_le _⟩ 0 rfl rfl rfl (Nat.le_of_ble_eq_true rfl) dX12_beginCode_1 (fun S1 => ?_)
  refine r_aload_n (pc := 4) C dX12_beginCode_4 0 rfl ?_
  refine r_iconst (pc := 5) C dX12_beginCode_5 (v := 0) (by decide) ?_
  refine mp_newCodes (pc := 6) C dX12_beginCode_6 (fun S2 => ?_)
  refine r_aload_n (pc := 9) C dX12_beginCode_9 0 rfl ?_
  refine r_iconst (pc := 10) C dX12_beginCode_10 (v := 0) (by decide) ?_
  refine mp_newThings (pc := 11) C dX12_beginCode_11 (fun S3 => ?_)
  exact r_retWV (wf := mw g q) hR (pc := 14) dX12_beginCode_14
set_option maxRecDepth 100000 in
theorem w_X12_beginCode {S : MS}  {S' : MS} (h : f_X12_beginCode S = some S') : fI [6, 7, 11, 12] [] S S' := by
  have hS : fI [6, 7, 11, 12] [] S S := fI_rf
  refine (?_ : jf (fI [6, 7, 11, 12] [] S) id (f_X12_beginCode S)) _ h
  unfold f_X12_beginCode
  refine f_bpS (fun _ h => fI_tr hS (w_X12_beginText h) (by decide) (by decide)) (fun S1 hS1 => ?_)
  refine f_ltS (fI_si hS1 (by decide)) (fun S2 hS2 => ?_)
  refine f_ltS (fI_si hS2 (by decide)) (fun S3 hS3 => ?_)
  exact f_some hS3
abbrev rm_X12_needs : Room := { frames := 7, cells := 0, slots := 0, locals := 147 }
theorem kY_X12_needs : kY yX12_needs cX12_needs 4 (some .int) 0 := ⟨kw_1_13, kw_6_196, by decide, by decide, by decide +kernel⟩
def L_X12_needs_8 (k7 : MS → Int32 → Int32 → Option (Int32 × MS)) : Nat → MS → Int32 → Int32 → Option (Int32 × MS) := lo3 fun rec5 S4 x2 x3 =>
  (if x3 = 0 then
  k7 S4 x2 x3
 else
  (if (S4.1 5) ≤ (S4.1 6) then
  k7 S4 x2 x3
 else
  chk x2 9 (lt (sa S4 10 (upd (S4.2 10) x2.toNatClampNeg (S4.1 11))) fun S9 =>
  jn2 (fun (S10 : MS) (x11 : Int32) =>
  jn1 (fun (x12 : Int32) =>
  lt (x2 + x12) fun x13 =>
  rec5 S10 x13 x11) (fun k14 =>
  (if x11 = 0 then
  k14 0
 else
  k14 1))) (fun k16 =>
  (if 8 ≤ x2 then
  bw (f_X12_fails S9 (S9.1 6)) (fun x18 S19 =>
  k16 S19 (b2 x18))
 else
  bw (f_X12_readCond S9) (fun x20 S21 =>
  k16 S21 (b2 x20)))))))
set_option maxRecDepth 100000 in
set_option maxHeartbeats 4000000 in
theorem l_X12_needs_8 {X : KX} {g : KG} {q : Nat → Nat} {res : Int32 × MS} (C : kC X g cX12_needs "MarkChainsModel" rm_X12_needs 4) (hR : ∀ (pc : Nat) (lv : List (Nat × Value)), decode cX12_needs pc = .ok (.ireturn, 1) → jW X g (mw g q res.2) 0 0 pc lv [.int res.1]) (k7 : MS → Int32 → Int32 → Option (Int32 × MS)) (hk8 : ∀ (S22 : MS) (x23 : Int32) (x24 : Int32), jJ X g res (mw g q S22) 0 0 70 [(0, .ref (q 0)), (1, .int x23), (2, .int x24)] [] (k7 S22 x23 x24)) : ∀ (n : Nat) (S4 : MS) (x2 : Int32) (x3 : Int32), jJ X g res (mw g q S4) 0 0 8 [(0, .ref (q 0)), (1, .int x2), (2, .int x3)] [] (L_X12_needs_8 k7 n S4 x2 x3) := by
  refine r_lo3 (fun S4 x2 x3 => mw g q S4) (fun S4 x2 x3 => [(0, .ref (q 0)), (1, .int x2), (2, .int x3)]) (fun rec5 ih6 S4 x2 x3 => ?_)
  refine r_iload_n (pc := 8) C dX12_needs_8 2 rfl ?_
  refine r_if_eq 70 (pc := 9) C dX12_needs_9 (by decide) ?_ ?_
  · exact hk8 S4 x2 x3
  · refine r_aload_n (pc := 12) C dX12_needs_12 0 rfl ?_
    refine mg_at (pc := 13) C dX12_needs_13 ?_
    refine r_aload_n (pc := 16) C dX12_needs_16 0 rfl ?_
    refine mg_taped (pc := 17) C dX12_needs_17 ?_
    refine r_icmp_ge 70 (pc := 20) C dX12_needs_20 (by decide) ?_ ?_
    · exact hk8 S4 x2 x3
    · refine r_aload_n (pc := 23) C dX12_needs_23 0 rfl ?_
      refine mg_newBegin (pc := 24) C dX12_needs_24 ?_
      refine r_iload_n (pc := 27) C dX12_needs_27 1 rfl ?_
      refine r_aload_n (pc := 28) C dX12_needs_28 0 rfl ?_
      refine mg_newCodes (pc := 29) C dX12_needs_29 ?_
      refine ms_newBegin (pc := 32) C dX12_needs_32 (fun S9 => ?_)
      refine r_iload_n (pc := 33) C dX12_needs_33 1 rfl ?_
      refine r_bipush (pc := 34) C dX12_needs_34 (v := 8) (by decide) ?_
      refine r_jn2 54 (fun (S10 : MS) (x11 : Int32) => mw g q S10) (fun (S10 : MS) (x11 : Int32) => [(0, .ref (q 0)), (1, .int x2)]) (fun (S10 : MS) (x11 : Int32) => [.int x11]) (fun S10 x11 => ?_) (fun k16 hk17 => ?_)
      · refine r_istore_n (pc := 54) C dX12_needs_54 (lv' := [(0, .ref (q 0)), (1, .int x2), (2, .int x11)]) (by decide) [1, 2, 0] rfl ?_
        refine r_iload_n (pc := 55) C dX12_needs_55 1 rfl ?_
        refine r_iload_n (pc := 56) C dX12_needs_56 2 rfl ?_
        refine r_jn1 65 (fun (x12 : Int32) => mw g q S10) (fun (x12 : Int32) => [(0, .ref (q 0)), (2, .int x11)]) (fun (x12 : Int32) => [.int x12, .int x2]) (fun x12 => ?_) (fun k14 hk15 => ?_)
        · refine r_iadd (pc := 65) C dX12_needs_65 ?_
          refine r_istoreV_n (pc := 66) C dX12_needs_66 (lv' := fun x13 => [(0, .ref (q 0)), (1, .int x13), (2, .int x11)]) (by decide) [1, 0, 2] (fun _ => rfl) (fun x13 => ?_)
          refine r_goto 8 (pc := 67) C dX12_needs_67 (by decide) ?_
          exact ih6 S10 x13 x11
        · refine r_if_eq 64 (pc := 57) C dX12_needs_57 (by decide) ?_ ?_
          · refine r_iconst (pc := 64) C dX12_needs_64 (v := 0) (by decide) ?_
            refine r_sub (lv' := [(0, .ref (q 0)), (2, .int x11)]) [0, 2] rfl ?_
            exact hk15 0
          · refine r_iconst (pc := 60) C dX12_needs_60 (v := 1) (by decide) ?_
            refine r_goto 65 (pc := 61) C dX12_needs_61 (by decide) ?_
            refine r_sub (lv' := [(0, .ref (q 0)), (2, .int x11)]) [0, 2] rfl ?_
            exact hk15 1
      · refine r_icmp_ge 46 (pc := 36) C dX12_needs_36 (by decide) ?_ ?_
        · refine r_aload_n (pc := 46) C dX12_needs_46 0 rfl ?_
          refine r_aload_n (pc := 47) C dX12_needs_47 0 rfl ?_
          refine mg_at (pc := 48) C dX12_needs_48 ?_
          refine r_cVwz (As := [.int (S9.1 6)]) (st := []) (wf := mw g q) (pc := 51) C (fun _ _ h => c_X12_fails h) kY_X12_fails kw_6_156 kw_0_43 kw_6_154 rfl ⟨Nat.le_of_ble_eq_true rfl, Nat.le_of_ble_eq_true rfl⟩ rfl rfl ⟨Nat.zero_le _, Nat.zero_le _⟩ 0 rfl rfl rfl (Nat.le_of_ble_eq_true rfl) dX12_needs_51 (fun x18 S19 => ?_)
          refine r_sub (lv' := [(0, .ref (q 0)), (1, .int x2)]) [0, 1] rfl ?_
          exact hk17 S19 (b2 x18)
        · refine r_aload_n (pc := 39) C dX12_needs_39 0 rfl ?_
          refine r_cVwz (As := []) (st := []) (wf := mw g q) (pc := 40) C (fun _ _ h => c_X12_readCond h) kY_X12_readCond kw_6_203 kw_0_52 kw_6_201 rfl ⟨Nat.le_of_ble_eq_true rfl, Nat.le_of_ble_eq_true rfl⟩ rfl rfl ⟨Nat.zero_le _, Nat.zero_le _⟩ 0 rfl rfl rfl (Nat.le_of_ble_eq_true rfl) dX12_needs_40 (fun x20 S21 => ?_)
          refine r_goto 54 (pc := 43) C dX12_needs_43 (by decide) ?_
          refine r_sub (lv' := [(0, .ref (q 0)), (1, .int x2)]) [0, 1] rfl ?_
          exact hk17 S21 (b2 x20)
set_option maxRecDepth 100000 in
theorem v_X12_needs_8 {S0 : MS} {k7 : MS → Int32 → Int32 → Option (Int32 × MS)} (hk8 : ∀ (S22 : MS) (x23 : Int32) (x24 : Int32), (fI [3, 5, 6, 7, 8, 11, 12, 16] [0, 1, 9, 10, 13, 14, 15] S0) S22 → jf (fI [3, 5, 6, 7, 8, 11, 12, 16] [0, 1, 9, 10, 13, 14, 15] S0) Prod.snd (k7 S22 x23 x24)) : ∀ (n : Nat) (S4 : MS) (x2 : Int32) (x3 : Int32), (fI [3, 5, 6, 7, 8, 11, 12, 16] [0, 1, 9, 10, 13, 14, 15] S0) S4 → jf (fI [3, 5, 6, 7, 8, 11, 12, 16] [0, 1, 9, 10, 13, 14, 15] S0) Prod.snd (L_X12_needs_8 k7 n S4 x2 x3) := by
  refine f_lo3 (I := (fI [3, 5, 6, 7, 8, 11, 12, 16] [0, 1, 9, 10, 13, 14, 15] S0)) (fun S4 x2 x3 => S4) (fun rec5 ih6 S4 x2 x3 hS4 => ?_)
  refine f_ite ?_ ?_
  · exact hk8 S4 x2 x3 hS4
  · refine f_ite ?_ ?_
    · exact hk8 S4 x2 x3 hS4
    · refine f_chk (f_ltS (fI_sa hS4 (by decide)) (fun S9 hS9 => ?_))
      refine f_jn2 (fun S10 x11 hS10 => ?_) (fun k16 hk17 => ?_)
      · refine f_jm1 hS10 (fun x12 hS10 => ?_) (fun k14 hk15 => ?_)
        · refine f_lt (fun x13 => ?_)
          exact ih6 S10 x13 x11 hS10
        · refine f_ite ?_ ?_
          · exact hk15 0 hS10
          · exact hk15 1 hS10
      · refine f_ite ?_ ?_
        · refine f_bwS (fun _ _ h => fI_tr hS9 (w_X12_fails h) (by decide) (by decide)) (fun x18 S19 hS19 => ?_)
          exact hk17 S19 (b2 x18) hS19
        · refine f_bwS (fun _ _ h => fI_tr hS9 (w_X12_readCond h) (by decide) (by decide)) (fun x20 S21 hS21 => ?_)
          exact hk17 S21 (b2 x20) hS21
def L_X12_needs_106 (c1 : Int32) (k36 : MS → Option (Int32 × MS)) : Nat → MS → Int32 → Option (Int32 × MS) := lo2 fun rec34 S33 x32 =>
  (if c1 < x32 then
  k36 S33
 else
  chk x32 9 (
  chk (726 + x32) 1177 (lt (sa S33 0 (upd (S33.2 0) (726 + x32).toNatClampNeg (S33.2 10 x32.toNatClampNeg))) fun S38 =>
  lt (x32 + 1) fun x39 =>
  rec34 S38 x39)))
set_option maxRecDepth 100000 in
set_option maxHeartbeats 4000000 in
theorem l_X12_needs_106 {X : KX} {g : KG} {q : Nat → Nat} {res : Int32 × MS} (C : kC X g cX12_needs "MarkChainsModel" rm_X12_needs 4) (hR : ∀ (pc : Nat) (lv : List (Nat × Value)), decode cX12_needs pc = .ok (.ireturn, 1) → jW X g (mw g q res.2) 0 0 pc lv [.int res.1]) (c1 : Int32) (k36 : MS → Option (Int32 × MS)) (hk37 : ∀ (S40 : MS), jJ X g res (mw g q S40) 0 0 133 [(0, .ref (q 0)), (1, .int c1)] [] (k36 S40)) : ∀ (n : Nat) (S33 : MS) (x32 : Int32), jJ X g res (mw g q S33) 0 0 106 [(0, .ref (q 0)), (1, .int c1), (3, .int x32)] [] (L_X12_needs_106 c1 k36 n S33 x32) := by
  refine r_lo2 (fun S33 x32 => mw g q S33) (fun S33 x32 => [(0, .ref (q 0)), (1, .int c1), (3, .int x32)]) (fun rec34 ih35 S33 x32 => ?_)
  refine r_iload_n (pc := 106) C dX12_needs_106 2 rfl ?_
  refine r_iload_n (pc := 107) C dX12_needs_107 1 rfl ?_
  refine r_icmp_gt 133 (pc := 108) C dX12_needs_108 (by decide) ?_ ?_
  · refine r_sub (lv' := [(0, .ref (q 0)), (1, .int c1)]) [0, 1] rfl ?_
    exact hk37 S33
  · refine r_aload_n (pc := 111) C dX12_needs_111 0 rfl ?_
    refine mg_all (pc := 112) C dX12_needs_112 ?_
    refine r_sipush (pc := 115) C dX12_needs_115 (v := 726) (by decide) ?_
    refine r_iload_n (pc := 118) C dX12_needs_118 2 rfl ?_
    refine r_iadd (pc := 119) C dX12_needs_119 ?_
    refine r_aload_n (pc := 120) C dX12_needs_120 0 rfl ?_
    refine mg_newBegin (pc := 121) C dX12_needs_121 ?_
    refine r_iload_n (pc := 124) C dX12_needs_124 2 rfl ?_
    refine ml_newBegin (pc := 125) C dX12_needs_125 ?_
    refine ms_all (pc := 126) C dX12_needs_126 (fun S38 => ?_)
    refine r_iinc (pc := 127) C dX12_needs_127 (v := 1) (lv' := fun x39 => [(0, .ref (q 0)), (1, .int c1), (3, .int x39)]) 2 rfl (by decide) (by decide) [1, 2, 0] (fun _ => rfl) (fun x39 => ?_)
    refine r_goto 106 (pc := 130) C dX12_needs_130 (by decide) ?_
    exact ih35 S38 x39
set_option maxRecDepth 100000 in
theorem v_X12_needs_106 {S0 : MS} {c1 : Int32} {k36 : MS → Option (Int32 × MS)} (hk37 : ∀ (S40 : MS), (fI [3, 5, 6, 7, 8, 11, 12, 16] [0, 1, 9, 10, 13, 14, 15] S0) S40 → jf (fI [3, 5, 6, 7, 8, 11, 12, 16] [0, 1, 9, 10, 13, 14, 15] S0) Prod.snd (k36 S40)) : ∀ (n : Nat) (S33 : MS) (x32 : Int32), (fI [3, 5, 6, 7, 8, 11, 12, 16] [0, 1, 9, 10, 13, 14, 15] S0) S33 → jf (fI [3, 5, 6, 7, 8, 11, 12, 16] [0, 1, 9, 10, 13, 14, 15] S0) Prod.snd (L_X12_needs_106 c1 k36 n S33 x32) := by
  refine f_lo2 (I := (fI [3, 5, 6, 7, 8, 11, 12, 16] [0, 1, 9, 10, 13, 14, 15] S0)) (fun S33 x32 => S33) (fun rec34 ih35 S33 x32 hS33 => ?_)
  refine f_ite ?_ ?_
  · exact hk37 S33 hS33
  · refine f_chk ?_
    refine f_chk (f_ltS (fI_sa hS33 (by decide)) (fun S38 hS38 => ?_))
    refine f_lt (fun x39 => ?_)
    exact ih35 S38 x39 hS38
def L_X12_needs_135 (k46 : MS → Option (Int32 × MS)) : Nat → MS → Int32 → Option (Int32 × MS) := lo2 fun rec44 S43 x42 =>
  (if (S43.1 11) ≤ x42 then
  k46 S43
 else
  chk x42 310 (
  chk (735 + x42) 1177 (lt (sa S43 0 (upd (S43.2 0) (735 + x42).toNatClampNeg (S43.2 9 x42.toNatClampNeg))) fun S48 =>
  lt (x42 + 1) fun x49 =>
  rec44 S48 x49)))
set_option maxRecDepth 100000 in
set_option maxHeartbeats 4000000 in
theorem l_X12_needs_135 {X : KX} {g : KG} {q : Nat → Nat} {res : Int32 × MS} (C : kC X g cX12_needs "MarkChainsModel" rm_X12_needs 4) (hR : ∀ (pc : Nat) (lv : List (Nat × Value)), decode cX12_needs pc = .ok (.ireturn, 1) → jW X g (mw g q res.2) 0 0 pc lv [.int res.1]) (c1 : Int32) (k46 : MS → Option (Int32 × MS)) (hk47 : ∀ (S50 : MS), jJ X g res (mw g q S50) 0 0 165 [(1, .int c1)] [] (k46 S50)) : ∀ (n : Nat) (S43 : MS) (x42 : Int32), jJ X g res (mw g q S43) 0 0 135 [(0, .ref (q 0)), (1, .int c1), (3, .int x42)] [] (L_X12_needs_135 k46 n S43 x42) := by
  refine r_lo2 (fun S43 x42 => mw g q S43) (fun S43 x42 => [(0, .ref (q 0)), (1, .int c1), (3, .int x42)]) (fun rec44 ih45 S43 x42 => ?_)
  refine r_iload_n (pc := 135) C dX12_needs_135 2 rfl ?_
  refine r_aload_n (pc := 136) C dX12_needs_136 0 rfl ?_
  refine mg_newCodes (pc := 137) C dX12_needs_137 ?_
  refine r_icmp_ge 165 (pc := 140) C dX12_needs_140 (by decide) ?_ ?_
  · refine r_sub (lv' := [(1, .int c1)]) [1] rfl ?_
    exact hk47 S43
  · refine r_aload_n (pc := 143) C dX12_needs_143 0 rfl ?_
    refine mg_all (pc := 144) C dX12_needs_144 ?_
    refine r_sipush (pc := 147) C dX12_needs_147 (v := 735) (by decide) ?_
    refine r_iload_n (pc := 150) C dX12_needs_150 2 rfl ?_
    refine r_iadd (pc := 151) C dX12_needs_151 ?_
    refine r_aload_n (pc := 152) C dX12_needs_152 0 rfl ?_
    refine mg_newCode (pc := 153) C dX12_needs_153 ?_
    refine r_iload_n (pc := 156) C dX12_needs_156 2 rfl ?_
    refine ml_newCode (pc := 157) C dX12_needs_157 ?_
    refine ms_all (pc := 158) C dX12_needs_158 (fun S48 => ?_)
    refine r_iinc (pc := 159) C dX12_needs_159 (v := 1) (lv' := fun x49 => [(0, .ref (q 0)), (1, .int c1), (3, .int x49)]) 2 rfl (by decide) (by decide) [1, 2, 0] (fun _ => rfl) (fun x49 => ?_)
    refine r_goto 135 (pc := 162) C dX12_needs_162 (by decide) ?_
    exact ih45 S48 x49
set_option maxRecDepth 100000 in
theorem v_X12_needs_135 {S0 : MS} {k46 : MS → Option (Int32 × MS)} (hk47 : ∀ (S50 : MS), (fI [3, 5, 6, 7, 8, 11, 12, 16] [0, 1, 9, 10, 13, 14, 15] S0) S50 → jf (fI [3, 5, 6, 7, 8, 11, 12, 16] [0, 1, 9, 10, 13, 14, 15] S0) Prod.snd (k46 S50)) : ∀ (n : Nat) (S43 : MS) (x42 : Int32), (fI [3, 5, 6, 7, 8, 11, 12, 16] [0, 1, 9, 10, 13, 14, 15] S0) S43 → jf (fI [3, 5, 6, 7, 8, 11, 12, 16] [0, 1, 9, 10, 13, 14, 15] S0) Prod.snd (L_X12_needs_135 k46 n S43 x42) := by
  refine f_lo2 (I := (fI [3, 5, 6, 7, 8, 11, 12, 16] [0, 1, 9, 10, 13, 14, 15] S0)) (fun S43 x42 => S43) (fun rec44 ih45 S43 x42 hS43 => ?_)
  refine f_ite ?_ ?_
  · exact hk47 S43 hS43
  · refine f_chk ?_
    refine f_chk (f_ltS (fI_sa hS43 (by decide)) (fun S48 hS48 => ?_))
    refine f_lt (fun x49 => ?_)
    exact ih45 S48 x49 hS48
def f_X12_needs (S : MS) : Option (Int32 × MS) :=
  bp (f_X12_beginCode S) (fun S1 =>
  L_X12_needs_8 (fun S25 x26 x27 =>
  lt (si S25 5 0) fun S28 =>
  (if x27 = 0 then
  some ((-1), S28)
 else
  chk x26 9 (lt (sa S28 10 (upd (S28.2 10) x26.toNatClampNeg (S28.1 11))) fun S29 =>
  bp (f_X12_deed S29) (fun S30 =>
  chk 725 1177 (lt (sa S30 0 (upd (S30.2 0) (725 : Int32).toNatClampNeg x26)) fun S31 =>
  L_X12_needs_106 x26 (fun S41 =>
  L_X12_needs_135 (fun S51 =>
  some (x26, S51)) FU S41 0) FU S31 0))))) FU S1 0 1)
set_option maxRecDepth 100000 in
set_option maxHeartbeats 4000000 in
theorem c_X12_needs {g : KG} {q : Nat → Nat} {S : MS}  {r : Int32} {S' : MS} (h : f_X12_needs S = some (r, S')) : ∀ l, kM l yX12_needs cX12_needs 4 (some .int) rm_X12_needs g [.ref (q 0)] (mw g q S) (mw g q S') (some (.int r)) 0 0 := by
  refine k_open_i (own := "MarkChainsModel") (by decide) rfl (Nat.le_of_ble_eq_true rfl) (fun X C hR => ?_)
  refine (?_ : jJ X g ((r, S') : Int32 × MS) (mw g q S) 0 0 0 [(0, .ref (q 0))] [] (f_X12_needs S)) h
  unfold f_X12_needs
  refine r_aload_n (pc := 0) C dX12_needs_0 0 rfl ?_
  refine r_cVwv (As := []) (st := []) (wf := mw g q) (pc := 1) C (fun _ h => c_X12_beginCode h) kY_X12_beginCode kw_6_199 kw_0_51 kw_6_197 rfl ⟨Nat.le_of_ble_eq_true rfl, Nat.le_of_ble_eq_true rfl⟩ rfl rfl ⟨Nat.zero_le _, Nat.zero_le _⟩ 0 rfl rfl rfl (Nat.le_of_ble_eq_true rfl) dX12_needs_1 (fun S1 => ?_)
  refine r_iconst (pc := 4) C dX12_needs_4 (v := 0) (by decide) ?_
  refine r_istore_n (pc := 5) C dX12_needs_5 (lv' := [(0, .ref (q 0)), (1, .int 0)]) (by decide) [1, 0] rfl ?_
  refine r_iconst (pc := 6) C dX12_needs_6 (v := 1) (by decide) ?_
  refine r_istore_n (pc := 7) C dX12_needs_7 (lv' := [(0, .ref (q 0)), (1, .int 0), (2, .int 1)]) (by decide) [1, 2, 0] rfl ?_
  refine l_X12_needs_8 C hR _ (fun S25 x26 x27 => ?_) FU S1 0 1
  refine r_aload_n (pc := 70) C dX12_needs_70 0 rfl ?_
  refine r_iconst (pc := 71) C dX12_needs_71 (v := 0) (by decide) ?_
  refine mp_taped (pc := 72) C dX12_needs_72 (fun S28 => ?_)
  refine r_iload_n (pc := 75) C dX12_needs_75 2 rfl ?_
  refine r_if_ne 81 (pc := 76) C dX12_needs_76 (by decide) ?_ ?_
  · refine r_aload_n (pc := 81) C dX12_needs_81 0 rfl ?_
    refine mg_newBegin (pc := 82) C dX12_needs_82 ?_
    refine r_iload_n (pc := 85) C dX12_needs_85 1 rfl ?_
    refine r_aload_n (pc := 86) C dX12_needs_86 0 rfl ?_
    refine mg_newCodes (pc := 87) C dX12_needs_87 ?_
    refine ms_newBegin (pc := 90) C dX12_needs_90 (fun S29 => ?_)
    refine r_aload_n (pc := 91) C dX12_needs_91 0 rfl ?_
    refine r_cVwv (As := []) (st := []) (wf := mw g q) (pc := 92) C (fun _ h => c_X12_deed h) kY_X12_deed kw_6_191 kw_0_50 kw_6_189 rfl ⟨Nat.le_of_ble_eq_true rfl, Nat.le_of_ble_eq_true rfl⟩ rfl rfl ⟨Nat.zero_le _, Nat.zero_le _⟩ 0 rfl rfl rfl (Nat.le_of_ble_eq_true rfl) dX12_needs_92 (fun S30 => ?_)
    refine r_aload_n (pc := 95) C dX12_needs_95 0 rfl ?_
    refine mg_all (pc := 96) C dX12_needs_96 ?_
    refine r_sipush (pc := 99) C dX12_needs_99 (v := 725) (by decide) ?_
    refine r_iload_n (pc := 102) C dX12_needs_102 1 rfl ?_
    refine ms_all (pc := 103) C dX12_needs_103 (fun S31 => ?_)
    refine r_iconst (pc := 104) C dX12_needs_104 (v := 0) (by decide) ?_
    refine r_istore_n (pc := 105) C dX12_needs_105 (lv' := [(0, .ref (q 0)), (1, .int x26), (2, .int x27), (3, .int 0)]) (by decide) [1, 2, 3, 0] rfl ?_
    refine r_sub (lv' := [(0, .ref (q 0)), (1, .int x26), (3, .int 0)]) [0, 1, 3] rfl ?_
    refine l_X12_needs_106 C hR x26 _ (fun S41 => ?_) FU S31 0
    refine r_iconst (pc := 133) C dX12_needs_133 (v := 0) (by decide) ?_
    refine r_istore_n (pc := 134) C dX12_needs_134 (lv' := [(0, .ref (q 0)), (1, .int x26), (3, .int 0)]) (by decide) [1, 2, 0] rfl ?_
    refine l_X12_needs_135 C hR x26 _ (fun S51 => ?_) FU S41 0
    refine r_iload_n (pc := 165) C dX12_needs_165 0 rfl ?_
    exact r_retWI (wf := mw g q) hR (pc := 166) dX12_needs_166
  · refine r_iconst (pc := 79) C dX12_needs_79 (v := (-1)) (by decide) ?_
    exact r_retWI (wf := mw g q) hR (pc := 80) dX12_needs_80
set_option maxRecDepth 100000 in
theorem w_X12_needs {S : MS}  {r : Int32} {S' : MS} (h : f_X12_needs S = some (r, S')) : fI [3, 5, 6, 7, 8, 11, 12, 16] [0, 1, 9, 10, 13, 14, 15] S S' := by
  have hS : fI [3, 5, 6, 7, 8, 11, 12, 16] [0, 1, 9, 10, 13, 14, 15] S S := fI_rf
  refine (?_ : jf (fI [3, 5, 6, 7, 8, 11, 12, 16] [0, 1, 9, 10, 13, 14, 15] S) Prod.snd (f_X12_needs S)) _ h
  unfold f_X12_needs
  refine f_bpS (fun _ h => fI_tr hS (w_X12_beginCode h) (by decide) (by decide)) (fun S1 hS1 => ?_)
  refine v_X12_needs_8 (fun S25 x26 x27 hS25 => ?_) FU S1 0 1 hS1
  refine f_ltS (fI_si hS25 (by decide)) (fun S28 hS28 => ?_)
  refine f_ite ?_ ?_
  · exact f_some hS28
  · refine f_chk (f_ltS (fI_sa hS28 (by decide)) (fun S29 hS29 => ?_))
    refine f_bpS (fun _ h => fI_tr hS29 (w_X12_deed h) (by decide) (by decide)) (fun S30 hS30 => ?_)
    refine f_chk (f_ltS (fI_sa hS30 (by decide)) (fun S31 hS31 => ?_))
    refine v_X12_needs_106 (fun S41 hS41 => ?_) FU S31 0 hS31
    refine v_X12_needs_135 (fun S51 hS51 => ?_) FU S41 0 hS41
    exact f_some hS51
abbrev rm_X12_score : Room := { frames := 5, cells := 0, slots := 0, locals := 105 }
theorem kY_X12_score : kY yX12_score cX12_score 3 (some .int) 0 := ⟨kw_1_13, kw_7_4, by decide, by decide, by decide +kernel⟩
def L_X12_score_87 (k12 : MS → Option (Int32 × MS)) : Nat → MS → Int32 → Option (Int32 × MS) := lo2 fun rec10 S9 x8 =>
  (if (S9.1 11) ≤ x8 then
  k12 S9
 else
  chk x8 310 (
  chk (1047 + x8) 1177 (lt (sa S9 0 (upd (S9.2 0) (1047 + x8).toNatClampNeg (S9.2 9 x8.toNatClampNeg))) fun S14 =>
  lt (x8 + 1) fun x15 =>
  rec10 S14 x15)))
set_option maxRecDepth 100000 in
set_option maxHeartbeats 4000000 in
theorem l_X12_score_87 {X : KX} {g : KG} {q : Nat → Nat} {res : Int32 × MS} (C : kC X g cX12_score "MarkChainsModel" rm_X12_score 3) (hR : ∀ (pc : Nat) (lv : List (Nat × Value)), decode cX12_score pc = .ok (.ireturn, 1) → jW X g (mw g q res.2) 0 0 pc lv [.int res.1]) (k12 : MS → Option (Int32 × MS)) (hk13 : ∀ (S16 : MS), jJ X g res (mw g q S16) 0 0 117 [(0, .ref (q 0))] [] (k12 S16)) : ∀ (n : Nat) (S9 : MS) (x8 : Int32), jJ X g res (mw g q S9) 0 0 87 [(0, .ref (q 0)), (2, .int x8)] [] (L_X12_score_87 k12 n S9 x8) := by
  refine r_lo2 (fun S9 x8 => mw g q S9) (fun S9 x8 => [(0, .ref (q 0)), (2, .int x8)]) (fun rec10 ih11 S9 x8 => ?_)
  refine r_iload_n (pc := 87) C dX12_score_87 1 rfl ?_
  refine r_aload_n (pc := 88) C dX12_score_88 0 rfl ?_
  refine mg_newCodes (pc := 89) C dX12_score_89 ?_
  refine r_icmp_ge 117 (pc := 92) C dX12_score_92 (by decide) ?_ ?_
  · refine r_sub (lv' := [(0, .ref (q 0))]) [0] rfl ?_
    exact hk13 S9
  · refine r_aload_n (pc := 95) C dX12_score_95 0 rfl ?_
    refine mg_all (pc := 96) C dX12_score_96 ?_
    refine r_sipush (pc := 99) C dX12_score_99 (v := 1047) (by decide) ?_
    refine r_iload_n (pc := 102) C dX12_score_102 1 rfl ?_
    refine r_iadd (pc := 103) C dX12_score_103 ?_
    refine r_aload_n (pc := 104) C dX12_score_104 0 rfl ?_
    refine mg_newCode (pc := 105) C dX12_score_105 ?_
    refine r_iload_n (pc := 108) C dX12_score_108 1 rfl ?_
    refine ml_newCode (pc := 109) C dX12_score_109 ?_
    refine ms_all (pc := 110) C dX12_score_110 (fun S14 => ?_)
    refine r_iinc (pc := 111) C dX12_score_111 (v := 1) (lv' := fun x15 => [(0, .ref (q 0)), (2, .int x15)]) 1 rfl (by decide) (by decide) [1, 0] (fun _ => rfl) (fun x15 => ?_)
    refine r_goto 87 (pc := 114) C dX12_score_114 (by decide) ?_
    exact ih11 S14 x15
set_option maxRecDepth 100000 in
theorem v_X12_score_87 {S0 : MS} {k12 : MS → Option (Int32 × MS)} (hk13 : ∀ (S16 : MS), (fI [3, 5, 6, 7, 8, 11, 12] [0, 1, 9] S0) S16 → jf (fI [3, 5, 6, 7, 8, 11, 12] [0, 1, 9] S0) Prod.snd (k12 S16)) : ∀ (n : Nat) (S9 : MS) (x8 : Int32), (fI [3, 5, 6, 7, 8, 11, 12] [0, 1, 9] S0) S9 → jf (fI [3, 5, 6, 7, 8, 11, 12] [0, 1, 9] S0) Prod.snd (L_X12_score_87 k12 n S9 x8) := by
  refine f_lo2 (I := (fI [3, 5, 6, 7, 8, 11, 12] [0, 1, 9] S0)) (fun S9 x8 => S9) (fun rec10 ih11 S9 x8 hS9 => ?_)
  refine f_ite ?_ ?_
  · exact hk13 S9 hS9
  · refine f_chk ?_
    refine f_chk (f_ltS (fI_sa hS9 (by decide)) (fun S14 hS14 => ?_))
    refine f_lt (fun x15 => ?_)
    exact ih11 S14 x15 hS14
def f_X12_score (S : MS) : Option (Int32 × MS) :=
  bp (f_X12_beginCode S) (fun S1 =>
  jn2 (fun (S2 : MS) (x3 : Int32) =>
  lt (si S2 5 0) fun S4 =>
  (if x3 = 0 then
  some ((-1), S4)
 else
  bp (f_X12_deed S4) (fun S5 =>
  chk 1045 1177 (lt (sa S5 0 (upd (S5.2 0) (1045 : Int32).toNatClampNeg (S5.1 12))) fun S6 =>
  chk 1046 1177 (lt (sa S6 0 (upd (S6.2 0) (1046 : Int32).toNatClampNeg (S6.1 11))) fun S7 =>
  L_X12_score_87 (fun S17 =>
  some (S17.1 12, S17)) FU S7 0))))) (fun k18 =>
  (if (S1.1 5) = 0 then
  k18 S1 1
 else
  bw (f_X12_readSum S1) (fun x20 S21 =>
  jn1 (fun (S22 : MS) =>
  k18 S22 0) (fun k23 =>
  (if x20 = true then
  (if (S21.1 6) = (S21.1 5) then
  k18 S21 1
 else
  bw (f_X12_fails S21 (S21.1 6)) (fun x25 S26 =>
  (if x25 = true then
  k18 S26 1
 else
  k23 S26)))
 else
  k23 S21))))))
set_option maxRecDepth 100000 in
set_option maxHeartbeats 4000000 in
theorem c_X12_score {g : KG} {q : Nat → Nat} {S : MS}  {r : Int32} {S' : MS} (h : f_X12_score S = some (r, S')) : ∀ l, kM l yX12_score cX12_score 3 (some .int) rm_X12_score g [.ref (q 0)] (mw g q S) (mw g q S') (some (.int r)) 0 0 := by
  refine k_open_i (own := "MarkChainsModel") (by decide) rfl (Nat.le_of_ble_eq_true rfl) (fun X C hR => ?_)
  refine (?_ : jJ X g ((r, S') : Int32 × MS) (mw g q S) 0 0 0 [(0, .ref (q 0))] [] (f_X12_score S)) h
  unfold f_X12_score
  refine r_aload_n (pc := 0) C dX12_score_0 0 rfl ?_
  refine r_cVwv (As := []) (st := []) (wf := mw g q) (pc := 1) C (fun _ h => c_X12_beginCode h) kY_X12_beginCode kw_6_199 kw_0_51 kw_6_197 rfl ⟨Nat.le_of_ble_eq_true rfl, Nat.le_of_ble_eq_true rfl⟩ rfl rfl ⟨Nat.zero_le _, Nat.zero_le _⟩ 0 rfl rfl rfl (Nat.le_of_ble_eq_true rfl) dX12_score_1 (fun S1 => ?_)
  refine r_aload_n (pc := 4) C dX12_score_4 0 rfl ?_
  refine mg_taped (pc := 5) C dX12_score_5 ?_
  refine r_jn2 45 (fun (S2 : MS) (x3 : Int32) => mw g q S2) (fun (S2 : MS) (x3 : Int32) => [(0, .ref (q 0))]) (fun (S2 : MS) (x3 : Int32) => [.int x3]) (fun S2 x3 => ?_) (fun k18 hk19 => ?_)
  · refine r_istore_n (pc := 45) C dX12_score_45 (lv' := [(0, .ref (q 0)), (1, .int x3)]) (by decide) [1, 0] rfl ?_
    refine r_aload_n (pc := 46) C dX12_score_46 0 rfl ?_
    refine r_iconst (pc := 47) C dX12_score_47 (v := 0) (by decide) ?_
    refine mp_taped (pc := 48) C dX12_score_48 (fun S4 => ?_)
    refine r_iload_n (pc := 51) C dX12_score_51 1 rfl ?_
    refine r_if_ne 57 (pc := 52) C dX12_score_52 (by decide) ?_ ?_
    · refine r_aload_n (pc := 57) C dX12_score_57 0 rfl ?_
      refine r_cVwv (As := []) (st := []) (wf := mw g q) (pc := 58) C (fun _ h => c_X12_deed h) kY_X12_deed kw_6_191 kw_0_50 kw_6_189 rfl ⟨Nat.le_of_ble_eq_true rfl, Nat.le_of_ble_eq_true rfl⟩ rfl rfl ⟨Nat.zero_le _, Nat.zero_le _⟩ 0 rfl rfl rfl (Nat.le_of_ble_eq_true rfl) dX12_score_58 (fun S5 => ?_)
      refine r_aload_n (pc := 61) C dX12_score_61 0 rfl ?_
      refine mg_all (pc := 62) C dX12_score_62 ?_
      refine r_sipush (pc := 65) C dX12_score_65 (v := 1045) (by decide) ?_
      refine r_aload_n (pc := 68) C dX12_score_68 0 rfl ?_
      refine mg_newThings (pc := 69) C dX12_score_69 ?_
      refine ms_all (pc := 72) C dX12_score_72 (fun S6 => ?_)
      refine r_aload_n (pc := 73) C dX12_score_73 0 rfl ?_
      refine mg_all (pc := 74) C dX12_score_74 ?_
      refine r_sipush (pc := 77) C dX12_score_77 (v := 1046) (by decide) ?_
      refine r_aload_n (pc := 80) C dX12_score_80 0 rfl ?_
      refine mg_newCodes (pc := 81) C dX12_score_81 ?_
      refine ms_all (pc := 84) C dX12_score_84 (fun S7 => ?_)
      refine r_iconst (pc := 85) C dX12_score_85 (v := 0) (by decide) ?_
      refine r_istore_n (pc := 86) C dX12_score_86 (lv' := [(0, .ref (q 0)), (1, .int x3), (2, .int 0)]) (by decide) [1, 2, 0] rfl ?_
      refine r_sub (lv' := [(0, .ref (q 0)), (2, .int 0)]) [0, 2] rfl ?_
      refine l_X12_score_87 C hR _ (fun S17 => ?_) FU S7 0
      refine r_aload_n (pc := 117) C dX12_score_117 0 rfl ?_
      refine mg_newThings (pc := 118) C dX12_score_118 ?_
      exact r_retWI (wf := mw g q) hR (pc := 121) dX12_score_121
    · refine r_iconst (pc := 55) C dX12_score_55 (v := (-1)) (by decide) ?_
      exact r_retWI (wf := mw g q) hR (pc := 56) dX12_score_56
  · refine r_if_eq 40 (pc := 8) C dX12_score_8 (by decide) ?_ ?_
    · refine r_iconst (pc := 40) C dX12_score_40 (v := 1) (by decide) ?_
      refine r_goto 45 (pc := 41) C dX12_score_41 (by decide) ?_
      exact hk19 S1 1
    · refine r_aload_n (pc := 11) C dX12_score_11 0 rfl ?_
      refine r_cVwz (As := []) (st := []) (wf := mw g q) (pc := 12) C (fun _ _ h => c_X12_readSum h) kY_X12_readSum kw_6_215 kw_0_55 kw_6_213 rfl ⟨Nat.le_of_ble_eq_true rfl, Nat.le_of_ble_eq_true rfl⟩ rfl rfl ⟨Nat.zero_le _, Nat.zero_le _⟩ 0 rfl rfl rfl (Nat.le_of_ble_eq_true rfl) dX12_score_12 (fun x20 S21 => ?_)
      refine r_jn1 44 (fun (S22 : MS) => mw g q S22) (fun (S22 : MS) => [(0, .ref (q 0))]) (fun (S22 : MS) => []) (fun S22 => ?_) (fun k23 hk24 => ?_)
      · refine r_iconst (pc := 44) C dX12_score_44 (v := 0) (by decide) ?_
        exact hk19 S22 0
      · refine r_ifb_eq 44 (pc := 15) C dX12_score_15 (by decide) ?_ ?_
        · exact hk24 S21
        · refine r_aload_n (pc := 18) C dX12_score_18 0 rfl ?_
          refine mg_at (pc := 19) C dX12_score_19 ?_
          refine r_aload_n (pc := 22) C dX12_score_22 0 rfl ?_
          refine mg_taped (pc := 23) C dX12_score_23 ?_
          refine r_icmp_eq 40 (pc := 26) C dX12_score_26 (by decide) ?_ ?_
          · refine r_iconst (pc := 40) C dX12_score_40 (v := 1) (by decide) ?_
            refine r_goto 45 (pc := 41) C dX12_score_41 (by decide) ?_
            exact hk19 S21 1
          · refine r_aload_n (pc := 29) C dX12_score_29 0 rfl ?_
            refine r_aload_n (pc := 30) C dX12_score_30 0 rfl ?_
            refine mg_at (pc := 31) C dX12_score_31 ?_
            refine r_cVwz (As := [.int (S21.1 6)]) (st := []) (wf := mw g q) (pc := 34) C (fun _ _ h => c_X12_fails h) kY_X12_fails kw_6_156 kw_0_43 kw_6_154 rfl ⟨Nat.le_of_ble_eq_true rfl, Nat.le_of_ble_eq_true rfl⟩ rfl rfl ⟨Nat.zero_le _, Nat.zero_le _⟩ 0 rfl rfl rfl (Nat.le_of_ble_eq_true rfl) dX12_score_34 (fun x25 S26 => ?_)
            refine r_ifb_eq 44 (pc := 37) C dX12_score_37 (by decide) ?_ ?_
            · exact hk24 S26
            · refine r_iconst (pc := 40) C dX12_score_40 (v := 1) (by decide) ?_
              refine r_goto 45 (pc := 41) C dX12_score_41 (by decide) ?_
              exact hk19 S26 1
set_option maxRecDepth 100000 in
theorem w_X12_score {S : MS}  {r : Int32} {S' : MS} (h : f_X12_score S = some (r, S')) : fI [3, 5, 6, 7, 8, 11, 12] [0, 1, 9] S S' := by
  have hS : fI [3, 5, 6, 7, 8, 11, 12] [0, 1, 9] S S := fI_rf
  refine (?_ : jf (fI [3, 5, 6, 7, 8, 11, 12] [0, 1, 9] S) Prod.snd (f_X12_score S)) _ h
  unfold f_X12_score
  refine f_bpS (fun _ h => fI_tr hS (w_X12_beginCode h) (by decide) (by decide)) (fun S1 hS1 => ?_)
  refine f_jn2 (fun S2 x3 hS2 => ?_) (fun k18 hk19 => ?_)
  · refine f_ltS (fI_si hS2 (by decide)) (fun S4 hS4 => ?_)
    refine f_ite ?_ ?_
    · exact f_some hS4
    · refine f_bpS (fun _ h => fI_tr hS4 (w_X12_deed h) (by decide) (by decide)) (fun S5 hS5 => ?_)
      refine f_chk (f_ltS (fI_sa hS5 (by decide)) (fun S6 hS6 => ?_))
      refine f_chk (f_ltS (fI_sa hS6 (by decide)) (fun S7 hS7 => ?_))
      refine v_X12_score_87 (fun S17 hS17 => ?_) FU S7 0 hS7
      exact f_some hS17
  · refine f_ite ?_ ?_
    · exact hk19 S1 1 hS1
    · refine f_bwS (fun _ _ h => fI_tr hS1 (w_X12_readSum h) (by decide) (by decide)) (fun x20 S21 hS21 => ?_)
      refine f_jn1 (fun S22 hS22 => ?_) (fun k23 hk24 => ?_)
      · exact hk19 S22 0 hS22
      · refine f_ite ?_ ?_
        · refine f_ite ?_ ?_
          · exact hk19 S21 1 hS21
          · refine f_bwS (fun _ _ h => fI_tr hS21 (w_X12_fails h) (by decide) (by decide)) (fun x25 S26 hS26 => ?_)
            refine f_ite ?_ ?_
            · exact hk19 S26 1 hS26
            · exact hk24 S26 hS26
        · exact hk24 S21 hS21
abbrev rm_X12_isMark : Room := { frames := 1, cells := 0, slots := 0, locals := 22 }
theorem kY_X12_isMark : kY yX12_isMark cX12_isMark 2 (some .boolean) 1 := ⟨kw_1_13, kw_7_12, by decide, by decide, by decide +kernel⟩
def f_X12_isMark (S : MS) (a1 : Int32) : Option (Bool) :=
  chk 3 1177 (
  bp (f_X12_isIn a1 0 ((S.2 0 (3 : Int32).toNatClampNeg) - 1)) (fun x1 =>
  some x1))
set_option maxRecDepth 100000 in
set_option maxHeartbeats 4000000 in
theorem c_X12_isMark {g : KG} {q : Nat → Nat} {S : MS} {a1 : Int32} {r : Bool} (h : f_X12_isMark S a1 = some r) : ∀ l, kM l yX12_isMark cX12_isMark 2 (some .boolean) rm_X12_isMark g [.ref (q 0), .int a1] (mw g q S) (mw g q S) (some (.int (b2 r))) 0 0 := by
  refine k_open_z (own := "MarkChainsModel") (by decide) rfl (Nat.le_of_ble_eq_true rfl) (fun X C hR => ?_)
  refine (?_ : jJ X g (r : Bool) (mw g q S) 0 0 0 [(0, .ref (q 0)), (1, .int a1)] [] (f_X12_isMark S a1)) h
  unfold f_X12_isMark
  refine r_iload_n (pc := 0) C dX12_isMark_0 1 rfl ?_
  refine r_iconst (pc := 1) C dX12_isMark_1 (v := 0) (by decide) ?_
  refine r_aload_n (pc := 2) C dX12_isMark_2 0 rfl ?_
  refine mg_all (pc := 3) C dX12_isMark_3 ?_
  refine r_iconst (pc := 6) C dX12_isMark_6 (v := 3) (by decide) ?_
  refine ml_all (pc := 7) C dX12_isMark_7 ?_
  refine r_iconst (pc := 8) C dX12_isMark_8 (v := 1) (by decide) ?_
  refine r_isub (pc := 9) C dX12_isMark_9 ?_
  refine r_cSpz (As := [.int a1, .int 0, .int ((S.2 0 (3 : Int32).toNatClampNeg) - 1)]) (st := []) (pc := 10) C (fun _ h => c_X12_isIn h) kY_X12_isIn kw_6_124 kw_6_123 rfl ⟨Nat.le_of_ble_eq_true rfl, Nat.le_of_ble_eq_true rfl⟩ rfl rfl ⟨Nat.zero_le _, Nat.zero_le _⟩ rfl (Nat.le_of_ble_eq_true rfl) dX12_isMark_10 (fun x1 => ?_)
  exact r_retPZ hR rfl (pc := 13) dX12_isMark_13
abbrev rm_X12_of : Room := { frames := 1, cells := 0, slots := 0, locals := 20 }
theorem kY_X12_of : kY yX12_of cX12_of 3 (some .int) 2 := ⟨kw_1_13, kw_7_28, by decide, by decide, by decide +kernel⟩
def f_X12_of (S : MS) (a1 : Int32) (a2 : Int32) : Option (Int32) :=
  bp (f_X12_markAt a1) (fun x1 =>
  chk (x1 + a2) 1177 (
  some (S.2 0 (x1 + a2).toNatClampNeg)))
set_option maxRecDepth 100000 in
set_option maxHeartbeats 4000000 in
theorem c_X12_of {g : KG} {q : Nat → Nat} {S : MS} {a1 : Int32} {a2 : Int32} {r : Int32} (h : f_X12_of S a1 a2 = some r) : ∀ l, kM l yX12_of cX12_of 3 (some .int) rm_X12_of g [.ref (q 0), .int a1, .int a2] (mw g q S) (mw g q S) (some (.int r)) 0 0 := by
  refine k_open_i (own := "MarkChainsModel") (by decide) rfl (Nat.le_of_ble_eq_true rfl) (fun X C hR => ?_)
  refine (?_ : jJ X g (r : Int32) (mw g q S) 0 0 0 [(0, .ref (q 0)), (1, .int a1), (2, .int a2)] [] (f_X12_of S a1 a2)) h
  unfold f_X12_of
  refine r_aload_n (pc := 0) C dX12_of_0 0 rfl ?_
  refine mg_all (pc := 1) C dX12_of_1 ?_
  refine r_iload_n (pc := 4) C dX12_of_4 1 rfl ?_
  refine r_cSpi (As := [.int a1]) (st := [.ref (q 1)]) (pc := 5) C (fun _ h => c_X12_markAt h) kY_X12_markAt kw_6_178 kw_6_177 rfl ⟨Nat.le_of_ble_eq_true rfl, Nat.le_of_ble_eq_true rfl⟩ rfl rfl ⟨Nat.zero_le _, Nat.zero_le _⟩ rfl (Nat.le_of_ble_eq_true rfl) dX12_of_5 (fun x1 => ?_)
  refine r_iload_n (pc := 8) C dX12_of_8 2 rfl ?_
  refine r_iadd (pc := 9) C dX12_of_9 ?_
  refine ml_all (pc := 10) C dX12_of_10 ?_
  exact r_retPI hR (pc := 11) dX12_of_11
abbrev rm_X12_ageOf : Room := { frames := 2, cells := 0, slots := 0, locals := 42 }
theorem kY_X12_ageOf : kY yX12_ageOf cX12_ageOf 2 (some .int) 1 := ⟨kw_1_13, kw_7_32, by decide, by decide, by decide +kernel⟩
def f_X12_ageOf (S : MS) (a1 : Int32) : Option (Int32) :=
  bp (f_X12_of S a1 3) (fun x1 =>
  bp (f_X12_of S a1 1) (fun x2 =>
  chk (33 + (2 * x2)) 1177 (
  some ((x1 - (S.2 0 (33 + (2 * x2)).toNatClampNeg)) / 365))))
set_option maxRecDepth 100000 in
set_option maxHeartbeats 4000000 in
theorem c_X12_ageOf {g : KG} {q : Nat → Nat} {S : MS} {a1 : Int32} {r : Int32} (h : f_X12_ageOf S a1 = some r) : ∀ l, kM l yX12_ageOf cX12_ageOf 2 (some .int) rm_X12_ageOf g [.ref (q 0), .int a1] (mw g q S) (mw g q S) (some (.int r)) 0 0 := by
  refine k_open_i (own := "MarkChainsModel") (by decide) rfl (Nat.le_of_ble_eq_true rfl) (fun X C hR => ?_)
  refine (?_ : jJ X g (r : Int32) (mw g q S) 0 0 0 [(0, .ref (q 0)), (1, .int a1)] [] (f_X12_ageOf S a1)) h
  unfold f_X12_ageOf
  refine r_aload_n (pc := 0) C dX12_ageOf_0 0 rfl ?_
  refine r_iload_n (pc := 1) C dX12_ageOf_1 1 rfl ?_
  refine r_iconst (pc := 2) C dX12_ageOf_2 (v := 3) (by decide) ?_
  refine r_cVpi (As := [.int a1, .int 3]) (st := []) (pc := 3) C (fun _ h => c_X12_of h) kY_X12_of kw_7_27 kw_0_64 kw_7_25 rfl ⟨Nat.le_of_ble_eq_true rfl, Nat.le_of_ble_eq_true rfl⟩ rfl rfl ⟨Nat.zero_le _, Nat.zero_le _⟩ 0 rfl rfl rfl (Nat.le_of_ble_eq_true rfl) dX12_ageOf_3 (fun x1 => ?_)
  refine r_aload_n (pc := 6) C dX12_ageOf_6 0 rfl ?_
  refine mg_all (pc := 7) C dX12_ageOf_7 ?_
  refine r_bipush (pc := 10) C dX12_ageOf_10 (v := 33) (by decide) ?_
  refine r_iconst (pc := 12) C dX12_ageOf_12 (v := 2) (by decide) ?_
  refine r_aload_n (pc := 13) C dX12_ageOf_13 0 rfl ?_
  refine r_iload_n (pc := 14) C dX12_ageOf_14 1 rfl ?_
  refine r_iconst (pc := 15) C dX12_ageOf_15 (v := 1) (by decide) ?_
  refine r_cVpi (As := [.int a1, .int 1]) (st := [.int 2, .int 33, .ref (q 1), .int x1]) (pc := 16) C (fun _ h => c_X12_of h) kY_X12_of kw_7_27 kw_0_64 kw_7_25 rfl ⟨Nat.le_of_ble_eq_true rfl, Nat.le_of_ble_eq_true rfl⟩ rfl rfl ⟨Nat.zero_le _, Nat.zero_le _⟩ 0 rfl rfl rfl (Nat.le_of_ble_eq_true rfl) dX12_ageOf_16 (fun x2 => ?_)
  refine r_imul (pc := 19) C dX12_ageOf_19 ?_
  refine r_iadd (pc := 20) C dX12_ageOf_20 ?_
  refine ml_all (pc := 21) C dX12_ageOf_21 ?_
  refine r_isub (pc := 22) C dX12_ageOf_22 ?_
  refine r_sipush (pc := 23) C dX12_ageOf_23 (v := 365) (by decide) ?_
  refine r_idiv (pc := 26) C dX12_ageOf_26 (by decide) ?_
  exact r_retPI hR (pc := 27) dX12_ageOf_27
abbrev rm_X12_eventOf : Room := { frames := 2, cells := 0, slots := 0, locals := 42 }
theorem kY_X12_eventOf : kY yX12_eventOf cX12_eventOf 3 (some .int) 2 := ⟨kw_1_13, kw_7_36, by decide, by decide, by decide +kernel⟩
def f_X12_eventOf (S : MS) (a1 : Int32) (a2 : Int32) : Option (Int32) :=
  bp (f_X12_of S a1 0) (fun x1 =>
  chk ((5 + (2 * x1)) + a2) 1177 (
  some (S.2 0 ((5 + (2 * x1)) + a2).toNatClampNeg)))
set_option maxRecDepth 100000 in
set_option maxHeartbeats 4000000 in
theorem c_X12_eventOf {g : KG} {q : Nat → Nat} {S : MS} {a1 : Int32} {a2 : Int32} {r : Int32} (h : f_X12_eventOf S a1 a2 = some r) : ∀ l, kM l yX12_eventOf cX12_eventOf 3 (some .int) rm_X12_eventOf g [.ref (q 0), .int a1, .int a2] (mw g q S) (mw g q S) (some (.int r)) 0 0 := by
  refine k_open_i (own := "MarkChainsModel") (by decide) rfl (Nat.le_of_ble_eq_true rfl) (fun X C hR => ?_)
  refine (?_ : jJ X g (r : Int32) (mw g q S) 0 0 0 [(0, .ref (q 0)), (1, .int a1), (2, .int a2)] [] (f_X12_eventOf S a1 a2)) h
  unfold f_X12_eventOf
  refine r_aload_n (pc := 0) C dX12_eventOf_0 0 rfl ?_
  refine mg_all (pc := 1) C dX12_eventOf_1 ?_
  refine r_iconst (pc := 4) C dX12_eventOf_4 (v := 5) (by decide) ?_
  refine r_iconst (pc := 5) C dX12_eventOf_5 (v := 2) (by decide) ?_
  refine r_aload_n (pc := 6) C dX12_eventOf_6 0 rfl ?_
  refine r_iload_n (pc := 7) C dX12_eventOf_7 1 rfl ?_
  refine r_iconst (pc := 8) C dX12_eventOf_8 (v := 0) (by decide) ?_
  refine r_cVpi (As := [.int a1, .int 0]) (st := [.int 2, .int 5, .ref (q 1)]) (pc := 9) C (fun _ h => c_X12_of h) kY_X12_of kw_7_27 kw_0_64 kw_7_25 rfl ⟨Nat.le_of_ble_eq_true rfl, Nat.le_of_ble_eq_true rfl⟩ rfl rfl ⟨Nat.zero_le _, Nat.zero_le _⟩ 0 rfl rfl rfl (Nat.le_of_ble_eq_true rfl) dX12_eventOf_9 (fun x1 => ?_)
  refine r_imul (pc := 12) C dX12_eventOf_12 ?_
  refine r_iadd (pc := 13) C dX12_eventOf_13 ?_
  refine r_iload_n (pc := 14) C dX12_eventOf_14 2 rfl ?_
  refine r_iadd (pc := 15) C dX12_eventOf_15 ?_
  refine ml_all (pc := 16) C dX12_eventOf_16 ?_
  exact r_retPI hR (pc := 17) dX12_eventOf_17
abbrev rm_X12_nameNow : Room := { frames := 3, cells := 0, slots := 0, locals := 64 }
theorem kY_X12_nameNow : kY yX12_nameNow cX12_nameNow 3 (some .int) 2 := ⟨kw_1_13, kw_7_24, by decide, by decide, by decide +kernel⟩
def f_X12_nameNow (S : MS) (a1 : Int32) (a2 : Int32) : Option (Int32) :=
  (if a2 = 0 then
  bp (f_X12_of S a1 5) (fun x1 =>
  some x1)
 else
  (if a2 = 1 then
  bp (f_X12_of S a1 6) (fun x2 =>
  some x2)
 else
  (if a2 = 2 then
  bp (f_X12_of S a1 7) (fun x3 =>
  some x3)
 else
  (if a2 = 3 then
  bp (f_X12_of S a1 2) (fun x4 =>
  chk ((17 + (2 * x4)) + 1) 1177 (
  some (S.2 0 ((17 + (2 * x4)) + 1).toNatClampNeg)))
 else
  (if a2 = 4 then
  bp (f_X12_ageOf S a1) (fun x5 =>
  some x5)
 else
  (if a2 = 5 then
  bp (f_X12_of S a1 0) (fun x6 =>
  some x6)
 else
  (if a2 = 6 then
  bp (f_X12_of S a1 3) (fun x7 =>
  some x7)
 else
  (if a2 = 7 then
  bp (f_X12_of S a1 4) (fun x8 =>
  some x8)
 else
  (if a2 = 8 then
  bp (f_X12_eventOf S a1 1) (fun x9 =>
  some x9)
 else
  (if a2 = 9 then
  bp (f_X12_eventOf S a1 0) (fun x10 =>
  some x10)
 else
  bp (f_X12_of S a1 8) (fun x11 =>
  some ((x11 >>> ((a2 - 10) &&& 31)) &&& 1))))))))))))
set_option maxRecDepth 100000 in
set_option maxHeartbeats 4000000 in
theorem c_X12_nameNow {g : KG} {q : Nat → Nat} {S : MS} {a1 : Int32} {a2 : Int32} {r : Int32} (h : f_X12_nameNow S a1 a2 = some r) : ∀ l, kM l yX12_nameNow cX12_nameNow 3 (some .int) rm_X12_nameNow g [.ref (q 0), .int a1, .int a2] (mw g q S) (mw g q S) (some (.int r)) 0 0 := by
  refine k_open_i (own := "MarkChainsModel") (by decide) rfl (Nat.le_of_ble_eq_true rfl) (fun X C hR => ?_)
  refine (?_ : jJ X g (r : Int32) (mw g q S) 0 0 0 [(0, .ref (q 0)), (1, .int a1), (2, .int a2)] [] (f_X12_nameNow S a1 a2)) h
  unfold f_X12_nameNow
  refine r_iload_n (pc := 0) C dX12_nameNow_0 2 rfl ?_
  refine r_case (fun h1_0 => ?_) (fun h1_0 => ?_)
  · refine r_tabIn (off := 55) 56 (pc := 1) C dX12_nameNow_1 h1_0 (by decide) (by decide) (by decide) (by decide) ?_
    refine r_aload_n (pc := 56) C dX12_nameNow_56 0 rfl ?_
    refine r_iload_n (pc := 57) C dX12_nameNow_57 1 rfl ?_
    refine r_iconst (pc := 58) C dX12_nameNow_58 (v := 5) (by decide) ?_
    refine r_cVpi (As := [.int a1, .int 5]) (st := []) (pc := 59) C (fun _ h => c_X12_of h) kY_X12_of kw_7_27 kw_0_64 kw_7_25 rfl ⟨Nat.le_of_ble_eq_true rfl, Nat.le_of_ble_eq_true rfl⟩ rfl rfl ⟨Nat.zero_le _, Nat.zero_le _⟩ 0 rfl rfl rfl (Nat.le_of_ble_eq_true rfl) dX12_nameNow_59 (fun x1 => ?_)
    exact r_retPI hR (pc := 62) dX12_nameNow_62
  · refine r_case (fun h1_1 => ?_) (fun h1_1 => ?_)
    · refine r_tabIn (off := 62) 63 (pc := 1) C dX12_nameNow_1 h1_1 (by decide) (by decide) (by decide) (by decide) ?_
      refine r_aload_n (pc := 63) C dX12_nameNow_63 0 rfl ?_
      refine r_iload_n (pc := 64) C dX12_nameNow_64 1 rfl ?_
      refine r_bipush (pc := 65) C dX12_nameNow_65 (v := 6) (by decide) ?_
      refine r_cVpi (As := [.int a1, .int 6]) (st := []) (pc := 67) C (fun _ h => c_X12_of h) kY_X12_of kw_7_27 kw_0_64 kw_7_25 rfl ⟨Nat.le_of_ble_eq_true rfl, Nat.le_of_ble_eq_true rfl⟩ rfl rfl ⟨Nat.zero_le _, Nat.zero_le _⟩ 0 rfl rfl rfl (Nat.le_of_ble_eq_true rfl) dX12_nameNow_67 (fun x2 => ?_)
      exact r_retPI hR (pc := 70) dX12_nameNow_70
    · refine r_case (fun h1_2 => ?_) (fun h1_2 => ?_)
      · refine r_tabIn (off := 70) 71 (pc := 1) C dX12_nameNow_1 h1_2 (by decide) (by decide) (by decide) (by decide) ?_
        refine r_aload_n (pc := 71) C dX12_nameNow_71 0 rfl ?_
        refine r_iload_n (pc := 72) C dX12_nameNow_72 1 rfl ?_
        refine r_bipush (pc := 73) C dX12_nameNow_73 (v := 7) (by decide) ?_
        refine r_cVpi (As := [.int a1, .int 7]) (st := []) (pc := 75) C (fun _ h => c_X12_of h) kY_X12_of kw_7_27 kw_0_64 kw_7_25 rfl ⟨Nat.le_of_ble_eq_true rfl, Nat.le_of_ble_eq_true rfl⟩ rfl rfl ⟨Nat.zero_le _, Nat.zero_le _⟩ 0 rfl rfl rfl (Nat.le_of_ble_eq_true rfl) dX12_nameNow_75 (fun x3 => ?_)
        exact r_retPI hR (pc := 78) dX12_nameNow_78
      · refine r_case (fun h1_3 => ?_) (fun h1_3 => ?_)
        · refine r_tabIn (off := 78) 79 (pc := 1) C dX12_nameNow_1 h1_3 (by decide) (by decide) (by decide) (by decide) ?_
          refine r_aload_n (pc := 79) C dX12_nameNow_79 0 rfl ?_
          refine mg_all (pc := 80) C dX12_nameNow_80 ?_
          refine r_bipush (pc := 83) C dX12_nameNow_83 (v := 17) (by decide) ?_
          refine r_iconst (pc := 85) C dX12_nameNow_85 (v := 2) (by decide) ?_
          refine r_aload_n (pc := 86) C dX12_nameNow_86 0 rfl ?_
          refine r_iload_n (pc := 87) C dX12_nameNow_87 1 rfl ?_
          refine r_iconst (pc := 88) C dX12_nameNow_88 (v := 2) (by decide) ?_
          refine r_cVpi (As := [.int a1, .int 2]) (st := [.int 2, .int 17, .ref (q 1)]) (pc := 89) C (fun _ h => c_X12_of h) kY_X12_of kw_7_27 kw_0_64 kw_7_25 rfl ⟨Nat.le_of_ble_eq_true rfl, Nat.le_of_ble_eq_true rfl⟩ rfl rfl ⟨Nat.zero_le _, Nat.zero_le _⟩ 0 rfl rfl rfl (Nat.le_of_ble_eq_true rfl) dX12_nameNow_89 (fun x4 => ?_)
          refine r_imul (pc := 92) C dX12_nameNow_92 ?_
          refine r_iadd (pc := 93) C dX12_nameNow_93 ?_
          refine r_iconst (pc := 94) C dX12_nameNow_94 (v := 1) (by decide) ?_
          refine r_iadd (pc := 95) C dX12_nameNow_95 ?_
          refine ml_all (pc := 96) C dX12_nameNow_96 ?_
          exact r_retPI hR (pc := 97) dX12_nameNow_97
        · refine r_case (fun h1_4 => ?_) (fun h1_4 => ?_)
          · refine r_tabIn (off := 97) 98 (pc := 1) C dX12_nameNow_1 h1_4 (by decide) (by decide) (by decide) (by decide) ?_
            refine r_aload_n (pc := 98) C dX12_nameNow_98 0 rfl ?_
            refine r_iload_n (pc := 99) C dX12_nameNow_99 1 rfl ?_
            refine r_cVpi (As := [.int a1]) (st := []) (pc := 100) C (fun _ h => c_X12_ageOf h) kY_X12_ageOf kw_7_31 kw_0_65 kw_7_29 rfl ⟨Nat.le_of_ble_eq_true rfl, Nat.le_of_ble_eq_true rfl⟩ rfl rfl ⟨Nat.zero_le _, Nat.zero_le _⟩ 0 rfl rfl rfl (Nat.le_of_ble_eq_true rfl) dX12_nameNow_100 (fun x5 => ?_)
            exact r_retPI hR (pc := 103) dX12_nameNow_103
          · refine r_case (fun h1_5 => ?_) (fun h1_5 => ?_)
            · refine r_tabIn (off := 103) 104 (pc := 1) C dX12_nameNow_1 h1_5 (by decide) (by decide) (by decide) (by decide) ?_
              refine r_aload_n (pc := 104) C dX12_nameNow_104 0 rfl ?_
              refine r_iload_n (pc := 105) C dX12_nameNow_105 1 rfl ?_
              refine r_iconst (pc := 106) C dX12_nameNow_106 (v := 0) (by decide) ?_
              refine r_cVpi (As := [.int a1, .int 0]) (st := []) (pc := 107) C (fun _ h => c_X12_of h) kY_X12_of kw_7_27 kw_0_64 kw_7_25 rfl ⟨Nat.le_of_ble_eq_true rfl, Nat.le_of_ble_eq_true rfl⟩ rfl rfl ⟨Nat.zero_le _, Nat.zero_le _⟩ 0 rfl rfl rfl (Nat.le_of_ble_eq_true rfl) dX12_nameNow_107 (fun x6 => ?_)
              exact r_retPI hR (pc := 110) dX12_nameNow_110
            · refine r_case (fun h1_6 => ?_) (fun h1_6 => ?_)
              · refine r_tabIn (off := 110) 111 (pc := 1) C dX12_nameNow_1 h1_6 (by decide) (by decide) (by decide) (by decide) ?_
                refine r_aload_n (pc := 111) C dX12_nameNow_111 0 rfl ?_
                refine r_iload_n (pc := 112) C dX12_nameNow_112 1 rfl ?_
                refine r_iconst (pc := 113) C dX12_nameNow_113 (v := 3) (by decide) ?_
                refine r_cVpi (As := [.int a1, .int 3]) (st := []) (pc := 114) C (fun _ h => c_X12_of h) kY_X12_of kw_7_27 kw_0_64 kw_7_25 rfl ⟨Nat.le_of_ble_eq_true rfl, Nat.le_of_ble_eq_true rfl⟩ rfl rfl ⟨Nat.zero_le _, Nat.zero_le _⟩ 0 rfl rfl rfl (Nat.le_of_ble_eq_true rfl) dX12_nameNow_114 (fun x7 => ?_)
                exact r_retPI hR (pc := 117) dX12_nameNow_117
              · refine r_case (fun h1_7 => ?_) (fun h1_7 => ?_)
                · refine r_tabIn (off := 117) 118 (pc := 1) C dX12_nameNow_1 h1_7 (by decide) (by decide) (by decide) (by decide) ?_
                  refine r_aload_n (pc := 118) C dX12_nameNow_118 0 rfl ?_
                  refine r_iload_n (pc := 119) C dX12_nameNow_119 1 rfl ?_
                  refine r_iconst (pc := 120) C dX12_nameNow_120 (v := 4) (by decide) ?_
                  refine r_cVpi (As := [.int a1, .int 4]) (st := []) (pc := 121) C (fun _ h => c_X12_of h) kY_X12_of kw_7_27 kw_0_64 kw_7_25 rfl ⟨Nat.le_of_ble_eq_true rfl, Nat.le_of_ble_eq_true rfl⟩ rfl rfl ⟨Nat.zero_le _, Nat.zero_le _⟩ 0 rfl rfl rfl (Nat.le_of_ble_eq_true rfl) dX12_nameNow_121 (fun x8 => ?_)
                  exact r_retPI hR (pc := 124) dX12_nameNow_124
                · refine r_case (fun h1_8 => ?_) (fun h1_8 => ?_)
                  · refine r_tabIn (off := 124) 125 (pc := 1) C dX12_nameNow_1 h1_8 (by decide) (by decide) (by decide) (by decide) ?_
                    refine r_aload_n (pc := 125) C dX12_nameNow_125 0 rfl ?_
                    refine r_iload_n (pc := 126) C dX12_nameNow_126 1 rfl ?_
                    refine r_iconst (pc := 127) C dX12_nameNow_127 (v := 1) (by decide) ?_
                    refine r_cVpi (As := [.int a1, .int 1]) (st := []) (pc := 128) C (fun _ h => c_X12_eventOf h) kY_X12_eventOf kw_7_35 kw_0_66 kw_7_33 rfl ⟨Nat.le_of_ble_eq_true rfl, Nat.le_of_ble_eq_true rfl⟩ rfl rfl ⟨Nat.zero_le _, Nat.zero_le _⟩ 0 rfl rfl rfl (Nat.le_of_ble_eq_true rfl) dX12_nameNow_128 (fun x9 => ?_)
                    exact r_retPI hR (pc := 131) dX12_nameNow_131
                  · refine r_case (fun h1_9 => ?_) (fun h1_9 => ?_)
                    · refine r_tabIn (off := 131) 132 (pc := 1) C dX12_nameNow_1 h1_9 (by decide) (by decide) (by decide) (by decide) ?_
                      refine r_aload_n (pc := 132) C dX12_nameNow_132 0 rfl ?_
                      refine r_iload_n (pc := 133) C dX12_nameNow_133 1 rfl ?_
                      refine r_iconst (pc := 134) C dX12_nameNow_134 (v := 0) (by decide) ?_
                      refine r_cVpi (As := [.int a1, .int 0]) (st := []) (pc := 135) C (fun _ h => c_X12_eventOf h) kY_X12_eventOf kw_7_35 kw_0_66 kw_7_33 rfl ⟨Nat.le_of_ble_eq_true rfl, Nat.le_of_ble_eq_true rfl⟩ rfl rfl ⟨Nat.zero_le _, Nat.zero_le _⟩ 0 rfl rfl rfl (Nat.le_of_ble_eq_true rfl) dX12_nameNow_135 (fun x10 => ?_)
                      exact r_retPI hR (pc := 138) dX12_nameNow_138
                    · refine r_tabDef 139 (pc := 1) C dX12_nameNow_1 (by decide) (fun j hj => ?_) (by decide) ?_
                      · match j, hj with
                        | 0, _ => exact Or.inr (lv_neT h1_0 (by decide))
                        | 1, _ => exact Or.inr (lv_neT h1_1 (by decide))
                        | 2, _ => exact Or.inr (lv_neT h1_2 (by decide))
                        | 3, _ => exact Or.inr (lv_neT h1_3 (by decide))
                        | 4, _ => exact Or.inr (lv_neT h1_4 (by decide))
                        | 5, _ => exact Or.inr (lv_neT h1_5 (by decide))
                        | 6, _ => exact Or.inr (lv_neT h1_6 (by decide))
                        | 7, _ => exact Or.inr (lv_neT h1_7 (by decide))
                        | 8, _ => exact Or.inr (lv_neT h1_8 (by decide))
                        | 9, _ => exact Or.inr (lv_neT h1_9 (by decide))
                        | j + 10, hj => exact absurd hj (by simp)
                      · refine r_aload_n (pc := 139) C dX12_nameNow_139 0 rfl ?_
                        refine r_iload_n (pc := 140) C dX12_nameNow_140 1 rfl ?_
                        refine r_bipush (pc := 141) C dX12_nameNow_141 (v := 8) (by decide) ?_
                        refine r_cVpi (As := [.int a1, .int 8]) (st := []) (pc := 143) C (fun _ h => c_X12_of h) kY_X12_of kw_7_27 kw_0_64 kw_7_25 rfl ⟨Nat.le_of_ble_eq_true rfl, Nat.le_of_ble_eq_true rfl⟩ rfl rfl ⟨Nat.zero_le _, Nat.zero_le _⟩ 0 rfl rfl rfl (Nat.le_of_ble_eq_true rfl) dX12_nameNow_143 (fun x11 => ?_)
                        refine r_iload_n (pc := 146) C dX12_nameNow_146 2 rfl ?_
                        refine r_bipush (pc := 147) C dX12_nameNow_147 (v := 10) (by decide) ?_
                        refine r_isub (pc := 149) C dX12_nameNow_149 ?_
                        refine r_ishr (pc := 150) C dX12_nameNow_150 ?_
                        refine r_iconst (pc := 151) C dX12_nameNow_151 (v := 1) (by decide) ?_
                        refine r_iand (pc := 152) C dX12_nameNow_152 ?_
                        exact r_retPI hR (pc := 153) dX12_nameNow_153
abbrev rm_X12_joined : Room := { frames := 0, cells := 0, slots := 0, locals := 0 }
theorem kY_X12_joined : kY yX12_joined cX12_joined 3 (some .int) 3 := ⟨kw_1_13, kw_7_39, by decide, by decide, by decide +kernel⟩
def f_X12_joined (a0 : Int32) (a1 : Int32) (a2 : Int32) : Option (Int32) :=
  jn0 (some (a1 ||| a2)) (fun k1 =>
  (if a0 = 38 then
  some (a1 &&& a2)
 else
  (if a0 = 42 then
  some (a1 * a2)
 else
  (if a0 = 43 then
  some (a1 + a2)
 else
  (if a0 = 45 then
  some (a1 - a2)
 else
  (if a0 = 47 then
  (if a2 = 0 then
  some 0
 else
  nz a2 (
  some (a1 / a2)))
 else
  (if a0 = 60 then
  (if a2 ≤ a1 then
  some 0
 else
  some 1)
 else
  (if a0 = 61 then
  (if a1 = a2 then
  some 1
 else
  some 0)
 else
  (if a0 = 62 then
  (if a1 ≤ a2 then
  some 0
 else
  some 1)
 else
  k1)))))))))
set_option maxRecDepth 100000 in
set_option maxHeartbeats 4000000 in
theorem c_X12_joined {g : KG} {ws : va_W} {a0 : Int32} {a1 : Int32} {a2 : Int32} {r : Int32} (h : f_X12_joined a0 a1 a2 = some r) : ∀ l, kM l yX12_joined cX12_joined 3 (some .int) rm_X12_joined g [.int a0, .int a1, .int a2] (ws) (ws) (some (.int r)) 0 0 := by
  refine k_open_i (own := "MarkChainsModel") (by decide) rfl (Nat.le_of_ble_eq_true rfl) (fun X C hR => ?_)
  refine (?_ : jJ X g (r : Int32) (ws) 0 0 0 [(0, .int a0), (1, .int a1), (2, .int a2)] [] (f_X12_joined a0 a1 a2)) h
  unfold f_X12_joined
  refine r_iload_n (pc := 0) C dX12_joined_0 0 rfl ?_
  refine r_jn0 177 (ws) ([(1, .int a1), (2, .int a2)]) ([]) ?_ (fun k1 hk2 => ?_)
  · refine r_iload_n (pc := 177) C dX12_joined_177 0 rfl ?_
    refine r_iload_n (pc := 178) C dX12_joined_178 1 rfl ?_
    refine r_ior (pc := 179) C dX12_joined_179 ?_
    exact r_retPI hR (pc := 180) dX12_joined_180
  · refine r_case (fun h1_0 => ?_) (fun h1_0 => ?_)
    · refine r_tabIn (off := 172) 173 (pc := 1) C dX12_joined_1 h1_0 (by decide) (by decide) (by decide) (by decide) ?_
      refine r_iload_n (pc := 173) C dX12_joined_173 1 rfl ?_
      refine r_iload_n (pc := 174) C dX12_joined_174 2 rfl ?_
      refine r_iand (pc := 175) C dX12_joined_175 ?_
      exact r_retPI hR (pc := 176) dX12_joined_176
    · refine r_case (fun h1_1 => ?_) (fun h1_1 => ?_)
      · refine r_tabIn (off := 123) 124 (pc := 1) C dX12_joined_1 h1_1 (by decide) (by decide) (by decide) (by decide) ?_
        refine r_iload_n (pc := 124) C dX12_joined_124 1 rfl ?_
        refine r_iload_n (pc := 125) C dX12_joined_125 2 rfl ?_
        refine r_imul (pc := 126) C dX12_joined_126 ?_
        exact r_retPI hR (pc := 127) dX12_joined_127
      · refine r_case (fun h1_2 => ?_) (fun h1_2 => ?_)
        · refine r_tabIn (off := 115) 116 (pc := 1) C dX12_joined_1 h1_2 (by decide) (by decide) (by decide) (by decide) ?_
          refine r_iload_n (pc := 116) C dX12_joined_116 1 rfl ?_
          refine r_iload_n (pc := 117) C dX12_joined_117 2 rfl ?_
          refine r_iadd (pc := 118) C dX12_joined_118 ?_
          exact r_retPI hR (pc := 119) dX12_joined_119
        · refine r_case (fun h1_3 => ?_) (fun h1_3 => ?_)
          · refine r_tabIn (off := 119) 120 (pc := 1) C dX12_joined_1 h1_3 (by decide) (by decide) (by decide) (by decide) ?_
            refine r_iload_n (pc := 120) C dX12_joined_120 1 rfl ?_
            refine r_iload_n (pc := 121) C dX12_joined_121 2 rfl ?_
            refine r_isub (pc := 122) C dX12_joined_122 ?_
            exact r_retPI hR (pc := 123) dX12_joined_123
          · refine r_case (fun h1_4 => ?_) (fun h1_4 => ?_)
            · refine r_tabIn (off := 127) 128 (pc := 1) C dX12_joined_1 h1_4 (by decide) (by decide) (by decide) (by decide) ?_
              refine r_iload_n (pc := 128) C dX12_joined_128 2 rfl ?_
              refine r_if_ne 136 (pc := 129) C dX12_joined_129 (by decide) ?_ ?_
              · refine r_iload_n (pc := 136) C dX12_joined_136 1 rfl ?_
                refine r_iload_n (pc := 137) C dX12_joined_137 2 rfl ?_
                refine r_idivN (pc := 138) C dX12_joined_138 ?_
                exact r_retPI hR (pc := 139) dX12_joined_139
              · refine r_iconst (pc := 132) C dX12_joined_132 (v := 0) (by decide) ?_
                refine r_goto 139 (pc := 133) C dX12_joined_133 (by decide) ?_
                exact r_retPI hR (pc := 139) dX12_joined_139
            · refine r_case (fun h1_5 => ?_) (fun h1_5 => ?_)
              · refine r_tabIn (off := 139) 140 (pc := 1) C dX12_joined_1 h1_5 (by decide) (by decide) (by decide) (by decide) ?_
                refine r_iload_n (pc := 140) C dX12_joined_140 1 rfl ?_
                refine r_iload_n (pc := 141) C dX12_joined_141 2 rfl ?_
                refine r_icmp_ge 149 (pc := 142) C dX12_joined_142 (by decide) ?_ ?_
                · refine r_iconst (pc := 149) C dX12_joined_149 (v := 0) (by decide) ?_
                  exact r_retPI hR (pc := 150) dX12_joined_150
                · refine r_iconst (pc := 145) C dX12_joined_145 (v := 1) (by decide) ?_
                  refine r_goto 150 (pc := 146) C dX12_joined_146 (by decide) ?_
                  exact r_retPI hR (pc := 150) dX12_joined_150
              · refine r_case (fun h1_6 => ?_) (fun h1_6 => ?_)
                · refine r_tabIn (off := 161) 162 (pc := 1) C dX12_joined_1 h1_6 (by decide) (by decide) (by decide) (by decide) ?_
                  refine r_iload_n (pc := 162) C dX12_joined_162 1 rfl ?_
                  refine r_iload_n (pc := 163) C dX12_joined_163 2 rfl ?_
                  refine r_icmp_ne 171 (pc := 164) C dX12_joined_164 (by decide) ?_ ?_
                  · refine r_iconst (pc := 171) C dX12_joined_171 (v := 0) (by decide) ?_
                    exact r_retPI hR (pc := 172) dX12_joined_172
                  · refine r_iconst (pc := 167) C dX12_joined_167 (v := 1) (by decide) ?_
                    refine r_goto 172 (pc := 168) C dX12_joined_168 (by decide) ?_
                    exact r_retPI hR (pc := 172) dX12_joined_172
                · refine r_case (fun h1_7 => ?_) (fun h1_7 => ?_)
                  · refine r_tabIn (off := 150) 151 (pc := 1) C dX12_joined_1 h1_7 (by decide) (by decide) (by decide) (by decide) ?_
                    refine r_iload_n (pc := 151) C dX12_joined_151 1 rfl ?_
                    refine r_iload_n (pc := 152) C dX12_joined_152 2 rfl ?_
                    refine r_icmp_le 160 (pc := 153) C dX12_joined_153 (by decide) ?_ ?_
                    · refine r_iconst (pc := 160) C dX12_joined_160 (v := 0) (by decide) ?_
                      exact r_retPI hR (pc := 161) dX12_joined_161
                    · refine r_iconst (pc := 156) C dX12_joined_156 (v := 1) (by decide) ?_
                      refine r_goto 161 (pc := 157) C dX12_joined_157 (by decide) ?_
                      exact r_retPI hR (pc := 161) dX12_joined_161
                  · refine r_tabDef 177 (pc := 1) C dX12_joined_1 (by decide) (fun j hj => ?_) (by decide) ?_
                    · match j, hj with
                      | 0, _ => exact Or.inr (lv_neT h1_0 (by decide))
                      | 1, _ => exact Or.inl rfl
                      | 2, _ => exact Or.inl rfl
                      | 3, _ => exact Or.inl rfl
                      | 4, _ => exact Or.inr (lv_neT h1_1 (by decide))
                      | 5, _ => exact Or.inr (lv_neT h1_2 (by decide))
                      | 6, _ => exact Or.inl rfl
                      | 7, _ => exact Or.inr (lv_neT h1_3 (by decide))
                      | 8, _ => exact Or.inl rfl
                      | 9, _ => exact Or.inr (lv_neT h1_4 (by decide))
                      | 10, _ => exact Or.inl rfl
                      | 11, _ => exact Or.inl rfl
                      | 12, _ => exact Or.inl rfl
                      | 13, _ => exact Or.inl rfl
                      | 14, _ => exact Or.inl rfl
                      | 15, _ => exact Or.inl rfl
                      | 16, _ => exact Or.inl rfl
                      | 17, _ => exact Or.inl rfl
                      | 18, _ => exact Or.inl rfl
                      | 19, _ => exact Or.inl rfl
                      | 20, _ => exact Or.inl rfl
                      | 21, _ => exact Or.inl rfl
                      | 22, _ => exact Or.inr (lv_neT h1_5 (by decide))
                      | 23, _ => exact Or.inr (lv_neT h1_6 (by decide))
                      | 24, _ => exact Or.inr (lv_neT h1_7 (by decide))
                      | j + 25, hj => exact absurd hj (by simp)
                    · refine r_sub (lv' := [(1, .int a1), (2, .int a2)]) [1, 2] rfl ?_
                      exact hk2
abbrev rm_X12_worked : Room := { frames := 4, cells := 0, slots := 0, locals := 86 }
theorem kY_X12_worked : kY yX12_worked cX12_worked 7 (some .int) 3 := ⟨kw_1_13, kw_7_20, by decide, by decide, by decide +kernel⟩
def L_X12_worked_6 (c2 : Int32) (c3 : Int32) (k6 : MS → Option (Int32 × MS)) : Nat → MS → Int32 → Int32 → Option (Int32 × MS) := lo3 fun rec4 S3 x1 x2 =>
  (if c2 ≤ x2 then
  k6 S3
 else
  chk x2 1177 (
  lt (S3.2 0 x2.toNatClampNeg) fun x8 =>
  (if 20000000 ≤ x8 then
  (if x8 = 20000033 then
  chk (x1 - 1) 64 (
  chk (x1 - 1) 64 (lt (sa S3 17 (upd (S3.2 17) (x1 - 1).toNatClampNeg (1 - (S3.2 17 (x1 - 1).toNatClampNeg)))) fun S13 =>
  lt (x2 + 1) fun x14 =>
  rec4 S13 x1 x14))
 else
  lt (x1 + (-1)) fun x9 =>
  chk (x9 - 1) 64 (
  chk x9 64 (
  bp (f_X12_joined (x8 - 20000000) (S3.2 17 (x9 - 1).toNatClampNeg) (S3.2 17 x9.toNatClampNeg)) (fun x10 =>
  chk (x9 - 1) 64 (lt (sa S3 17 (upd (S3.2 17) (x9 - 1).toNatClampNeg x10)) fun S11 =>
  lt (x2 + 1) fun x12 =>
  rec4 S11 x9 x12)))))
 else
  jn1 (fun (x15 : Int32) =>
  chk x1 64 (lt (sa S3 17 (upd (S3.2 17) x1.toNatClampNeg x15)) fun S16 =>
  lt (x1 + 1) fun x17 =>
  lt (x2 + 1) fun x18 =>
  rec4 S16 x17 x18)) (fun k19 =>
  (if 10000000 ≤ x8 then
  bp (f_X12_nameNow S3 c3 (x8 - 10000000)) (fun x21 =>
  k19 x21)
 else
  k19 x8)))))
set_option maxRecDepth 100000 in
set_option maxHeartbeats 4000000 in
theorem l_X12_worked_6 {X : KX} {g : KG} {q : Nat → Nat} {res : Int32 × MS} (C : kC X g cX12_worked "MarkChainsModel" rm_X12_worked 7) (hR : ∀ (pc : Nat) (lv : List (Nat × Value)), decode cX12_worked pc = .ok (.ireturn, 1) → jW X g (mw g q res.2) 0 0 pc lv [.int res.1]) (c2 : Int32) (c3 : Int32) (k6 : MS → Option (Int32 × MS)) (hk7 : ∀ (S22 : MS), jJ X g res (mw g q S22) 0 0 135 [(0, .ref (q 0))] [] (k6 S22)) : ∀ (n : Nat) (S3 : MS) (x1 : Int32) (x2 : Int32), jJ X g res (mw g q S3) 0 0 6 [(0, .ref (q 0)), (2, .int c2), (3, .int c3), (4, .int x1), (5, .int x2)] [] (L_X12_worked_6 c2 c3 k6 n S3 x1 x2) := by
  refine r_lo3 (fun S3 x1 x2 => mw g q S3) (fun S3 x1 x2 => [(0, .ref (q 0)), (2, .int c2), (3, .int c3), (4, .int x1), (5, .int x2)]) (fun rec4 ih5 S3 x1 x2 => ?_)
  refine r_iload (pc := 6) C dX12_worked_6 4 rfl ?_
  refine r_iload_n (pc := 8) C dX12_worked_8 1 rfl ?_
  refine r_icmp_ge 135 (pc := 9) C dX12_worked_9 (by decide) ?_ ?_
  · refine r_sub (lv' := [(0, .ref (q 0))]) [0] rfl ?_
    exact hk7 S3
  · refine r_aload_n (pc := 12) C dX12_worked_12 0 rfl ?_
    refine mg_all (pc := 13) C dX12_worked_13 ?_
    refine r_iload (pc := 16) C dX12_worked_16 4 rfl ?_
    refine ml_all (pc := 18) C dX12_worked_18 ?_
    refine r_istoreV (pc := 19) C dX12_worked_19 (lv' := fun x8 => [(0, .ref (q 0)), (2, .int c2), (3, .int c3), (4, .int x1), (5, .int x2), (6, .int x8)]) (by decide) [1, 2, 3, 4, 5, 0] (fun _ => rfl) (fun x8 => ?_)
    refine r_iload (pc := 21) C dX12_worked_21 5 rfl ?_
    refine r_ldc (pc := 23) C dX12_worked_23 kw_6_233 ?_
    refine r_icmp_ge 63 (pc := 25) C dX12_worked_25 (by decide) ?_ ?_
    · refine r_iload (pc := 63) C dX12_worked_63 5 rfl ?_
      refine r_ldc (pc := 65) C dX12_worked_65 kw_6_238 ?_
      refine r_icmp_ne 93 (pc := 67) C dX12_worked_67 (by decide) ?_ ?_
      · refine r_iinc (pc := 93) C dX12_worked_93 (v := (-1)) (lv' := fun x9 => [(0, .ref (q 0)), (2, .int c2), (3, .int c3), (4, .int x9), (5, .int x2), (6, .int x8)]) 3 rfl (by decide) (by decide) [1, 2, 3, 0, 4, 5] (fun _ => rfl) (fun x9 => ?_)
        refine r_aload_n (pc := 96) C dX12_worked_96 0 rfl ?_
        refine mg_pile (pc := 97) C dX12_worked_97 ?_
        refine r_iload (pc := 100) C dX12_worked_100 3 rfl ?_
        refine r_iconst (pc := 102) C dX12_worked_102 (v := 1) (by decide) ?_
        refine r_isub (pc := 103) C dX12_worked_103 ?_
        refine r_iload (pc := 104) C dX12_worked_104 5 rfl ?_
        refine r_ldc (pc := 106) C dX12_worked_106 kw_6_233 ?_
        refine r_isub (pc := 108) C dX12_worked_108 ?_
        refine r_aload_n (pc := 109) C dX12_worked_109 0 rfl ?_
        refine mg_pile (pc := 110) C dX12_worked_110 ?_
        refine r_iload (pc := 113) C dX12_worked_113 3 rfl ?_
        refine r_iconst (pc := 115) C dX12_worked_115 (v := 1) (by decide) ?_
        refine r_isub (pc := 116) C dX12_worked_116 ?_
        refine ml_pile (pc := 117) C dX12_worked_117 ?_
        refine r_aload_n (pc := 118) C dX12_worked_118 0 rfl ?_
        refine mg_pile (pc := 119) C dX12_worked_119 ?_
        refine r_iload (pc := 122) C dX12_worked_122 3 rfl ?_
        refine ml_pile (pc := 124) C dX12_worked_124 ?_
        refine r_cSpi (As := [.int (x8 - 20000000), .int (S3.2 17 (x9 - 1).toNatClampNeg), .int (S3.2 17 x9.toNatClampNeg)]) (st := [.int (x9 - 1), .ref (q 18)]) (pc := 125) C (fun _ h => c_X12_joined h) kY_X12_joined kw_7_38 kw_7_37 rfl ⟨Nat.le_of_ble_eq_true rfl, Nat.le_of_ble_eq_true rfl⟩ rfl rfl ⟨Nat.zero_le _, Nat.zero_le _⟩ rfl (Nat.le_of_ble_eq_true rfl) dX12_worked_125 (fun x10 => ?_)
        refine ms_pile (pc := 128) C dX12_worked_128 (fun S11 => ?_)
        refine r_iinc (pc := 129) C dX12_worked_129 (v := 1) (lv' := fun x12 => [(0, .ref (q 0)), (2, .int c2), (3, .int c3), (4, .int x9), (5, .int x12), (6, .int x8)]) 4 rfl (by decide) (by decide) [1, 2, 3, 4, 0, 5] (fun _ => rfl) (fun x12 => ?_)
        refine r_goto 6 (pc := 132) C dX12_worked_132 (by decide) ?_
        refine r_sub (lv' := [(0, .ref (q 0)), (2, .int c2), (3, .int c3), (4, .int x9), (5, .int x12)]) [0, 1, 2, 3, 4] rfl ?_
        exact ih5 S11 x9 x12
      · refine r_aload_n (pc := 70) C dX12_worked_70 0 rfl ?_
        refine mg_pile (pc := 71) C dX12_worked_71 ?_
        refine r_iload (pc := 74) C dX12_worked_74 3 rfl ?_
        refine r_iconst (pc := 76) C dX12_worked_76 (v := 1) (by decide) ?_
        refine r_isub (pc := 77) C dX12_worked_77 ?_
        refine r_iconst (pc := 78) C dX12_worked_78 (v := 1) (by decide) ?_
        refine r_aload_n (pc := 79) C dX12_worked_79 0 rfl ?_
        refine mg_pile (pc := 80) C dX12_worked_80 ?_
        refine r_iload (pc := 83) C dX12_worked_83 3 rfl ?_
        refine r_iconst (pc := 85) C dX12_worked_85 (v := 1) (by decide) ?_
        refine r_isub (pc := 86) C dX12_worked_86 ?_
        refine ml_pile (pc := 87) C dX12_worked_87 ?_
        refine r_isub (pc := 88) C dX12_worked_88 ?_
        refine ms_pile (pc := 89) C dX12_worked_89 (fun S13 => ?_)
        refine r_goto 129 (pc := 90) C dX12_worked_90 (by decide) ?_
        refine r_iinc (pc := 129) C dX12_worked_129 (v := 1) (lv' := fun x14 => [(0, .ref (q 0)), (2, .int c2), (3, .int c3), (4, .int x1), (5, .int x14), (6, .int x8)]) 4 rfl (by decide) (by decide) [1, 2, 3, 4, 0, 5] (fun _ => rfl) (fun x14 => ?_)
        refine r_goto 6 (pc := 132) C dX12_worked_132 (by decide) ?_
        refine r_sub (lv' := [(0, .ref (q 0)), (2, .int c2), (3, .int c3), (4, .int x1), (5, .int x14)]) [0, 1, 2, 3, 4] rfl ?_
        exact ih5 S13 x1 x14
    · refine r_aload_n (pc := 28) C dX12_worked_28 0 rfl ?_
      refine mg_pile (pc := 29) C dX12_worked_29 ?_
      refine r_iload (pc := 32) C dX12_worked_32 3 rfl ?_
      refine r_iload (pc := 34) C dX12_worked_34 5 rfl ?_
      refine r_ldc (pc := 36) C dX12_worked_36 kw_6_232 ?_
      refine r_jn1 56 (fun (x15 : Int32) => mw g q S3) (fun (x15 : Int32) => [(0, .ref (q 0)), (2, .int c2), (3, .int c3), (4, .int x1), (5, .int x2)]) (fun (x15 : Int32) => [.int x15, .int x1, .ref (q 18)]) (fun x15 => ?_) (fun k19 hk20 => ?_)
      · refine ms_pile (pc := 56) C dX12_worked_56 (fun S16 => ?_)
        refine r_iinc (pc := 57) C dX12_worked_57 (v := 1) (lv' := fun x17 => [(0, .ref (q 0)), (2, .int c2), (3, .int c3), (4, .int x17), (5, .int x2)]) 3 rfl (by decide) (by decide) [1, 2, 3, 0, 4] (fun _ => rfl) (fun x17 => ?_)
        refine r_goto 129 (pc := 60) C dX12_worked_60 (by decide) ?_
        refine r_iinc (pc := 129) C dX12_worked_129 (v := 1) (lv' := fun x18 => [(0, .ref (q 0)), (2, .int c2), (3, .int c3), (4, .int x17), (5, .int x18)]) 4 rfl (by decide) (by decide) [1, 2, 3, 4, 0] (fun _ => rfl) (fun x18 => ?_)
        refine r_goto 6 (pc := 132) C dX12_worked_132 (by decide) ?_
        exact ih5 S16 x17 x18
      · refine r_icmp_ge 46 (pc := 38) C dX12_worked_38 (by decide) ?_ ?_
        · refine r_aload_n (pc := 46) C dX12_worked_46 0 rfl ?_
          refine r_iload_n (pc := 47) C dX12_worked_47 2 rfl ?_
          refine r_iload (pc := 48) C dX12_worked_48 5 rfl ?_
          refine r_ldc (pc := 50) C dX12_worked_50 kw_6_232 ?_
          refine r_isub (pc := 52) C dX12_worked_52 ?_
          refine r_cVpi (As := [.int c3, .int (x8 - 10000000)]) (st := [.int x1, .ref (q 18)]) (pc := 53) C (fun _ h => c_X12_nameNow h) kY_X12_nameNow kw_7_23 kw_0_63 kw_7_21 rfl ⟨Nat.le_of_ble_eq_true rfl, Nat.le_of_ble_eq_true rfl⟩ rfl rfl ⟨Nat.zero_le _, Nat.zero_le _⟩ 0 rfl rfl rfl (Nat.le_of_ble_eq_true rfl) dX12_worked_53 (fun x21 => ?_)
          refine r_sub (lv' := [(0, .ref (q 0)), (2, .int c2), (3, .int c3), (4, .int x1), (5, .int x2)]) [0, 1, 2, 3, 4] rfl ?_
          exact hk20 x21
        · refine r_iload (pc := 41) C dX12_worked_41 5 rfl ?_
          refine r_goto 56 (pc := 43) C dX12_worked_43 (by decide) ?_
          refine r_sub (lv' := [(0, .ref (q 0)), (2, .int c2), (3, .int c3), (4, .int x1), (5, .int x2)]) [0, 1, 2, 3, 4] rfl ?_
          exact hk20 x8
set_option maxRecDepth 100000 in
theorem v_X12_worked_6 {S0 : MS} {c2 : Int32} {c3 : Int32} {k6 : MS → Option (Int32 × MS)} (hk7 : ∀ (S22 : MS), (fI [] [17] S0) S22 → jf (fI [] [17] S0) Prod.snd (k6 S22)) : ∀ (n : Nat) (S3 : MS) (x1 : Int32) (x2 : Int32), (fI [] [17] S0) S3 → jf (fI [] [17] S0) Prod.snd (L_X12_worked_6 c2 c3 k6 n S3 x1 x2) := by
  refine f_lo3 (I := (fI [] [17] S0)) (fun S3 x1 x2 => S3) (fun rec4 ih5 S3 x1 x2 hS3 => ?_)
  refine f_ite ?_ ?_
  · exact hk7 S3 hS3
  · refine f_chk ?_
    refine f_lt (fun x8 => ?_)
    refine f_ite ?_ ?_
    · refine f_ite ?_ ?_
      · refine f_chk ?_
        refine f_chk (f_ltS (fI_sa hS3 (by decide)) (fun S13 hS13 => ?_))
        refine f_lt (fun x14 => ?_)
        exact ih5 S13 x1 x14 hS13
      · refine f_lt (fun x9 => ?_)
        refine f_chk ?_
        refine f_chk ?_
        refine f_bp (fun x10 => ?_)
        refine f_chk (f_ltS (fI_sa hS3 (by decide)) (fun S11 hS11 => ?_))
        refine f_lt (fun x12 => ?_)
        exact ih5 S11 x9 x12 hS11
    · refine f_jm1 hS3 (fun x15 hS3 => ?_) (fun k19 hk20 => ?_)
      · refine f_chk (f_ltS (fI_sa hS3 (by decide)) (fun S16 hS16 => ?_))
        refine f_lt (fun x17 => ?_)
        refine f_lt (fun x18 => ?_)
        exact ih5 S16 x17 x18 hS16
      · refine f_ite ?_ ?_
        · refine f_bp (fun x21 => ?_)
          exact hk20 x21 hS3
        · exact hk20 x8 hS3
def f_X12_worked (S : MS) (a1 : Int32) (a2 : Int32) (a3 : Int32) : Option (Int32 × MS) :=
  L_X12_worked_6 a2 a3 (fun S23 =>
  chk 0 64 (
  some (S23.2 17 (0 : Int32).toNatClampNeg, S23))) FU S 0 a1
set_option maxRecDepth 100000 in
set_option maxHeartbeats 4000000 in
theorem c_X12_worked {g : KG} {q : Nat → Nat} {S : MS} {a1 : Int32} {a2 : Int32} {a3 : Int32} {r : Int32} {S' : MS} (h : f_X12_worked S a1 a2 a3 = some (r, S')) : ∀ l, kM l yX12_worked cX12_worked 7 (some .int) rm_X12_worked g [.ref (q 0), .int a1, .int a2, .int a3] (mw g q S) (mw g q S') (some (.int r)) 0 0 := by
  refine k_open_i (own := "MarkChainsModel") (by decide) rfl (Nat.le_of_ble_eq_true rfl) (fun X C hR => ?_)
  refine (?_ : jJ X g ((r, S') : Int32 × MS) (mw g q S) 0 0 0 [(0, .ref (q 0)), (1, .int a1), (2, .int a2), (3, .int a3)] [] (f_X12_worked S a1 a2 a3)) h
  unfold f_X12_worked
  refine r_iconst (pc := 0) C dX12_worked_0 (v := 0) (by decide) ?_
  refine r_istore (pc := 1) C dX12_worked_1 (lv' := [(0, .ref (q 0)), (1, .int a1), (2, .int a2), (3, .int a3), (4, .int 0)]) (by decide) [1, 2, 3, 4, 0] rfl ?_
  refine r_iload_n (pc := 3) C dX12_worked_3 1 rfl ?_
  refine r_istore (pc := 4) C dX12_worked_4 (lv' := [(0, .ref (q 0)), (1, .int a1), (2, .int a2), (3, .int a3), (4, .int 0), (5, .int a1)]) (by decide) [1, 2, 3, 4, 5, 0] rfl ?_
  refine r_sub (lv' := [(0, .ref (q 0)), (2, .int a2), (3, .int a3), (4, .int 0), (5, .int a1)]) [0, 2, 3, 4, 5] rfl ?_
  refine l_X12_worked_6 C hR a2 a3 _ (fun S23 => ?_) FU S 0 a1
  refine r_aload_n (pc := 135) C dX12_worked_135 0 rfl ?_
  refine mg_pile (pc := 136) C dX12_worked_136 ?_
  refine r_iconst (pc := 139) C dX12_worked_139 (v := 0) (by decide) ?_
  refine ml_pile (pc := 140) C dX12_worked_140 ?_
  exact r_retWI (wf := mw g q) hR (pc := 141) dX12_worked_141
set_option maxRecDepth 100000 in
theorem w_X12_worked {S : MS} {a1 : Int32} {a2 : Int32} {a3 : Int32} {r : Int32} {S' : MS} (h : f_X12_worked S a1 a2 a3 = some (r, S')) : fI [] [17] S S' := by
  have hS : fI [] [17] S S := fI_rf
  refine (?_ : jf (fI [] [17] S) Prod.snd (f_X12_worked S a1 a2 a3)) _ h
  unfold f_X12_worked
  refine v_X12_worked_6 (fun S23 hS23 => ?_) FU S 0 a1 hS
  refine f_chk ?_
  exact f_some hS23
