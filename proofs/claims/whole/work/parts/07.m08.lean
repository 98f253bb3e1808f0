abbrev rm_X12_at : Room := { frames := 6, cells := 0, slots := 0, locals := 136 }
theorem kY_X12_at : kY yX12_at cX12_at 8 (some .int) 4 := ⟨kw_1_13, kw_8_30, by decide, by decide, by decide +kernel⟩
def L_X12_at_43 (S : MS) (c3 : Int32) (c4 : Int32) (k8 : Int32 → Option (Int32 × MS)) : Nat → Int32 → Int32 → Option (Int32 × MS) := lo2 fun rec6 x4 x5 =>
  (if (S.1 20) ≤ x5 then
  k8 x4
 else
  chk x5 60 (
  bp (f_X12_of S (S.2 19 x5.toNatClampNeg) 3) (fun x10 =>
  jn0 (chk x5 60 (
  lt (S.2 19 x5.toNatClampNeg) fun x11 =>
  lt (x5 + 1) fun x12 =>
  rec6 x11 x12)) (fun k13 =>
  (if x10 < c3 then
  k13
 else
  (if x10 = c3 then
  chk x5 60 (
  bp (f_X12_of S (S.2 19 x5.toNatClampNeg) 4) (fun x16 =>
  (if c4 < x16 then
  lt (x5 + 1) fun x17 =>
  rec6 x4 x17
 else
  k13)))
 else
  lt (x5 + 1) fun x15 =>
  rec6 x4 x15))))))
set_option maxRecDepth 100000 in
set_option maxHeartbeats 4000000 in
theorem l_X12_at_43 {X : KX} {g : KG} {q : Nat → Nat} {res : Int32 × MS} {S : MS} (C : kC X g cX12_at "MarkChainsModel" rm_X12_at 8) (hR : ∀ (pc : Nat) (lv : List (Nat × Value)), decode cX12_at pc = .ok (.ireturn, 1) → jW X g (mw g q res.2) 0 0 pc lv [.int res.1]) (c3 : Int32) (c4 : Int32) (k8 : Int32 → Option (Int32 × MS)) (hk9 : ∀ (x18 : Int32), jJ X g res (mw g q S) 0 0 110 [(5, .int x18)] [] (k8 x18)) : ∀ (n : Nat) (x4 : Int32) (x5 : Int32), jJ X g res (mw g q S) 0 0 43 [(0, .ref (q 0)), (3, .int c3), (4, .int c4), (5, .int x4), (6, .int x5)] [] (L_X12_at_43 S c3 c4 k8 n x4 x5) := by
  refine r_lo2 (fun x4 x5 => mw g q S) (fun x4 x5 => [(0, .ref (q 0)), (3, .int c3), (4, .int c4), (5, .int x4), (6, .int x5)]) (fun rec6 ih7 x4 x5 => ?_)
  refine r_iload (pc := 43) C dX12_at_43 4 rfl ?_
  refine r_aload_n (pc := 45) C dX12_at_45 0 rfl ?_
  refine mg_links (pc := 46) C dX12_at_46 ?_
  refine r_icmp_ge 110 (pc := 49) C dX12_at_49 (by decide) ?_ ?_
  · refine r_sub (lv' := [(5, .int x4)]) [3] rfl ?_
    exact hk9 x4
  · refine r_aload_n (pc := 52) C dX12_at_52 0 rfl ?_
    refine r_aload_n (pc := 53) C dX12_at_53 0 rfl ?_
    refine mg_link (pc := 54) C dX12_at_54 ?_
    refine r_iload (pc := 57) C dX12_at_57 4 rfl ?_
    refine ml_link (pc := 59) C dX12_at_59 ?_
    refine r_iconst (pc := 60) C dX12_at_60 (v := 3) (by decide) ?_
    refine r_cVpi (As := [.int (S.2 19 x5.toNatClampNeg), .int 3]) (st := []) (pc := 61) C (fun _ h => c_X12_of h) kY_X12_of kw_7_27 kw_0_64 kw_7_25 rfl ⟨Nat.le_of_ble_eq_true rfl, Nat.le_of_ble_eq_true rfl⟩ rfl rfl ⟨Nat.zero_le _, Nat.zero_le _⟩ 0 rfl rfl rfl (Nat.le_of_ble_eq_true rfl) dX12_at_61 (fun x10 => ?_)
    refine r_istore (pc := 64) C dX12_at_64 (lv' := [(0, .ref (q 0)), (3, .int c3), (4, .int c4), (5, .int x4), (6, .int x5), (7, .int x10)]) (by decide) [1, 2, 3, 4, 5, 0] rfl ?_
    refine r_iload (pc := 66) C dX12_at_66 5 rfl ?_
    refine r_iload_n (pc := 68) C dX12_at_68 1 rfl ?_
    refine r_jn0 95 (mw g q S) ([(0, .ref (q 0)), (3, .int c3), (4, .int c4), (6, .int x5)]) ([]) ?_ (fun k13 hk14 => ?_)
    · refine r_aload_n (pc := 95) C dX12_at_95 0 rfl ?_
      refine mg_link (pc := 96) C dX12_at_96 ?_
      refine r_iload (pc := 99) C dX12_at_99 3 rfl ?_
      refine ml_link (pc := 101) C dX12_at_101 ?_
      refine r_istoreV (pc := 102) C dX12_at_102 (lv' := fun x11 => [(0, .ref (q 0)), (3, .int c3), (4, .int c4), (5, .int x11), (6, .int x5)]) (by decide) [1, 2, 3, 0, 4] (fun _ => rfl) (fun x11 => ?_)
      refine r_iinc (pc := 104) C dX12_at_104 (v := 1) (lv' := fun x12 => [(0, .ref (q 0)), (3, .int c3), (4, .int c4), (5, .int x11), (6, .int x12)]) 4 rfl (by decide) (by decide) [1, 2, 3, 4, 0] (fun _ => rfl) (fun x12 => ?_)
      refine r_goto 43 (pc := 107) C dX12_at_107 (by decide) ?_
      exact ih7 x11 x12
    · refine r_icmp_lt 95 (pc := 69) C dX12_at_69 (by decide) ?_ ?_
      · refine r_sub (lv' := [(0, .ref (q 0)), (3, .int c3), (4, .int c4), (6, .int x5)]) [0, 1, 2, 4] rfl ?_
        exact hk14
      · refine r_iload (pc := 72) C dX12_at_72 5 rfl ?_
        refine r_iload_n (pc := 74) C dX12_at_74 1 rfl ?_
        refine r_icmp_ne 104 (pc := 75) C dX12_at_75 (by decide) ?_ ?_
        · refine r_iinc (pc := 104) C dX12_at_104 (v := 1) (lv' := fun x15 => [(0, .ref (q 0)), (3, .int c3), (4, .int c4), (5, .int x4), (6, .int x15), (7, .int x10)]) 4 rfl (by decide) (by decide) [1, 2, 3, 4, 0, 5] (fun _ => rfl) (fun x15 => ?_)
          refine r_goto 43 (pc := 107) C dX12_at_107 (by decide) ?_
          refine r_sub (lv' := [(0, .ref (q 0)), (3, .int c3), (4, .int c4), (5, .int x4), (6, .int x15)]) [0, 1, 2, 3, 4] rfl ?_
          exact ih7 x4 x15
        · refine r_aload_n (pc := 78) C dX12_at_78 0 rfl ?_
          refine r_aload_n (pc := 79) C dX12_at_79 0 rfl ?_
          refine mg_link (pc := 80) C dX12_at_80 ?_
          refine r_iload (pc := 83) C dX12_at_83 4 rfl ?_
          refine ml_link (pc := 85) C dX12_at_85 ?_
          refine r_iconst (pc := 86) C dX12_at_86 (v := 4) (by decide) ?_
          refine r_cVpi (As := [.int (S.2 19 x5.toNatClampNeg), .int 4]) (st := []) (pc := 87) C (fun _ h => c_X12_of h) kY_X12_of kw_7_27 kw_0_64 kw_7_25 rfl ⟨Nat.le_of_ble_eq_true rfl, Nat.le_of_ble_eq_true rfl⟩ rfl rfl ⟨Nat.zero_le _, Nat.zero_le _⟩ 0 rfl rfl rfl (Nat.le_of_ble_eq_true rfl) dX12_at_87 (fun x16 => ?_)
          refine r_iload (pc := 90) C dX12_at_90 2 rfl ?_
          refine r_icmp_gt 104 (pc := 92) C dX12_at_92 (by decide) ?_ ?_
          · refine r_iinc (pc := 104) C dX12_at_104 (v := 1) (lv' := fun x17 => [(0, .ref (q 0)), (3, .int c3), (4, .int c4), (5, .int x4), (6, .int x17), (7, .int x10)]) 4 rfl (by decide) (by decide) [1, 2, 3, 4, 0, 5] (fun _ => rfl) (fun x17 => ?_)
            refine r_goto 43 (pc := 107) C dX12_at_107 (by decide) ?_
            refine r_sub (lv' := [(0, .ref (q 0)), (3, .int c3), (4, .int c4), (5, .int x4), (6, .int x17)]) [0, 1, 2, 3, 4] rfl ?_
            exact ih7 x4 x17
          · refine r_sub (lv' := [(0, .ref (q 0)), (3, .int c3), (4, .int c4), (6, .int x5)]) [0, 1, 2, 4] rfl ?_
            exact hk14
set_option maxRecDepth 100000 in
theorem v_X12_at_43 {S0 : MS} {S : MS} {c3 : Int32} {c4 : Int32} (hS : (fI [20] [18, 19] S0) S) {k8 : Int32 → Option (Int32 × MS)} (hk9 : ∀ (x18 : Int32), (fI [20] [18, 19] S0) S → jf (fI [20] [18, 19] S0) Prod.snd (k8 x18)) : ∀ (n : Nat) (x4 : Int32) (x5 : Int32), (fI [20] [18, 19] S0) S → jf (fI [20] [18, 19] S0) Prod.snd (L_X12_at_43 S c3 c4 k8 n x4 x5) := by
  refine f_lo2 (I := (fI [20] [18, 19] S0)) (fun x4 x5 => S) (fun rec6 ih7 x4 x5 hS => ?_)
  refine f_ite ?_ ?_
  · exact hk9 x4 hS
  · refine f_chk ?_
    refine f_bp (fun x10 => ?_)
    refine f_jm0 hS (fun  hS => ?_) (fun k13 hk14 => ?_)
    · refine f_chk ?_
      refine f_lt (fun x11 => ?_)
      refine f_lt (fun x12 => ?_)
      exact ih7 x11 x12 hS
    · refine f_ite ?_ ?_
      · exact hk14 hS
      · refine f_ite ?_ ?_
        · refine f_chk ?_
          refine f_bp (fun x16 => ?_)
          refine f_ite ?_ ?_
          · refine f_lt (fun x17 => ?_)
            exact ih7 x4 x17 hS
          · exact hk14 hS
        · refine f_lt (fun x15 => ?_)
          exact ih7 x4 x15 hS
def f_X12_at (S : MS) (a1 : Int32) (a2 : Int32) (a3 : Int32) (a4 : Int32) : Option (Int32 × MS) :=
  bp (f_X12_canAsk S a1 a2 a3) (fun x1 =>
  (if x1 = true then
  bp (f_X12_isIn a4 0 1439) (fun x2 =>
  (if x2 = true then
  chk 4 1177 (
  bp (f_X12_layChain S a1 a2 (S.2 0 (4 : Int32).toNatClampNeg)) (fun S3 =>
  L_X12_at_43 S3 a3 a4 (fun x19 =>
  some (x19, S3)) FU (-1) 0))
 else
  some ((-2), S)))
 else
  some ((-2), S)))
set_option maxRecDepth 100000 in
set_option maxHeartbeats 4000000 in
theorem c_X12_at {g : KG} {q : Nat → Nat} {S : MS} {a1 : Int32} {a2 : Int32} {a3 : Int32} {a4 : Int32} {r : Int32} {S' : MS} (h : f_X12_at S a1 a2 a3 a4 = some (r, S')) : ∀ l, kM l yX12_at cX12_at 8 (some .int) rm_X12_at g [.ref (q 0), .int a1, .int a2, .int a3, .int a4] (mw g q S) (mw g q S') (some (.int r)) 0 0 := by
  refine k_open_i (own := "MarkChainsModel") (by decide) rfl (Nat.le_of_ble_eq_true rfl) (fun X C hR => ?_)
  refine (?_ : jJ X g ((r, S') : Int32 × MS) (mw g q S) 0 0 0 [(0, .ref (q 0)), (1, .int a1), (2, .int a2), (3, .int a3), (4, .int a4)] [] (f_X12_at S a1 a2 a3 a4)) h
  unfold f_X12_at
  refine r_aload_n (pc := 0) C dX12_at_0 0 rfl ?_
  refine r_iload_n (pc := 1) C dX12_at_1 1 rfl ?_
  refine r_iload_n (pc := 2) C dX12_at_2 2 rfl ?_
  refine r_iload_n (pc := 3) C dX12_at_3 3 rfl ?_
  refine r_cVpz (As := [.int a1, .int a2, .int a3]) (st := []) (pc := 4) C (fun _ h => c_X12_canAsk h) kY_X12_canAsk kw_7_102 kw_0_71 kw_7_100 rfl ⟨Nat.le_of_ble_eq_true rfl, Nat.le_of_ble_eq_true rfl⟩ rfl rfl ⟨Nat.zero_le _, Nat.zero_le _⟩ 0 rfl rfl rfl (Nat.le_of_ble_eq_true rfl) dX12_at_4 (fun x1 => ?_)
  refine r_ifb_eq 22 (pc := 7) C dX12_at_7 (by decide) ?_ ?_
  · refine r_bipush (pc := 22) C dX12_at_22 (v := (-2)) (by decide) ?_
    exact r_retWI (wf := mw g q) hR (pc := 24) dX12_at_24
  · refine r_iload (pc := 10) C dX12_at_10 4 rfl ?_
    refine r_iconst (pc := 12) C dX12_at_12 (v := 0) (by decide) ?_
    refine r_sipush (pc := 13) C dX12_at_13 (v := 1439) (by decide) ?_
    refine r_cSpz (As := [.int a4, .int 0, .int 1439]) (st := []) (pc := 16) C (fun _ h => c_X12_isIn h) kY_X12_isIn kw_6_124 kw_6_123 rfl ⟨Nat.le_of_ble_eq_true rfl, Nat.le_of_ble_eq_true rfl⟩ rfl rfl ⟨Nat.zero_le _, Nat.zero_le _⟩ rfl (Nat.le_of_ble_eq_true rfl) dX12_at_16 (fun x2 => ?_)
    refine r_ifb_ne 25 (pc := 19) C dX12_at_19 (by decide) ?_ ?_
    · refine r_aload_n (pc := 25) C dX12_at_25 0 rfl ?_
      refine r_iload_n (pc := 26) C dX12_at_26 1 rfl ?_
      refine r_iload_n (pc := 27) C dX12_at_27 2 rfl ?_
      refine r_aload_n (pc := 28) C dX12_at_28 0 rfl ?_
      refine mg_all (pc := 29) C dX12_at_29 ?_
      refine r_iconst (pc := 32) C dX12_at_32 (v := 4) (by decide) ?_
      refine ml_all (pc := 33) C dX12_at_33 ?_
      refine r_cVwv (As := [.int a1, .int a2, .int (S.2 0 (4 : Int32).toNatClampNeg)]) (st := []) (wf := mw g q) (pc := 34) C (fun _ h => c_X12_layChain h) kY_X12_layChain kw_7_106 kw_0_72 kw_7_104 rfl ⟨Nat.le_of_ble_eq_true rfl, Nat.le_of_ble_eq_true rfl⟩ rfl rfl ⟨Nat.zero_le _, Nat.zero_le _⟩ 0 rfl rfl rfl (Nat.le_of_ble_eq_true rfl) dX12_at_34 (fun S3 => ?_)
      refine r_iconst (pc := 37) C dX12_at_37 (v := (-1)) (by decide) ?_
      refine r_istore (pc := 38) C dX12_at_38 (lv' := [(0, .ref (q 0)), (1, .int a1), (2, .int a2), (3, .int a3), (4, .int a4), (5, .int (-1))]) (by decide) [1, 2, 3, 4, 5, 0] rfl ?_
      refine r_iconst (pc := 40) C dX12_at_40 (v := 0) (by decide) ?_
      refine r_istore (pc := 41) C dX12_at_41 (lv' := [(0, .ref (q 0)), (1, .int a1), (2, .int a2), (3, .int a3), (4, .int a4), (5, .int (-1)), (6, .int 0)]) (by decide) [1, 2, 3, 4, 5, 6, 0] rfl ?_
      refine r_sub (lv' := [(0, .ref (q 0)), (3, .int a3), (4, .int a4), (5, .int (-1)), (6, .int 0)]) [0, 3, 4, 5, 6] rfl ?_
      refine l_X12_at_43 C hR a3 a4 _ (fun x19 => ?_) FU (-1) 0
      refine r_iload (pc := 110) C dX12_at_110 0 rfl ?_
      exact r_retWI (wf := mw g q) hR (pc := 112) dX12_at_112
    · refine r_bipush (pc := 22) C dX12_at_22 (v := (-2)) (by decide) ?_
      exact r_retWI (wf := mw g q) hR (pc := 24) dX12_at_24
set_option maxRecDepth 100000 in
theorem w_X12_at {S : MS} {a1 : Int32} {a2 : Int32} {a3 : Int32} {a4 : Int32} {r : Int32} {S' : MS} (h : f_X12_at S a1 a2 a3 a4 = some (r, S')) : fI [20] [18, 19] S S' := by
  have hS : fI [20] [18, 19] S S := fI_rf
  refine (?_ : jf (fI [20] [18, 19] S) Prod.snd (f_X12_at S a1 a2 a3 a4)) _ h
  unfold f_X12_at
  refine f_bp (fun x1 => ?_)
  refine f_ite ?_ ?_
  · refine f_bp (fun x2 => ?_)
    refine f_ite ?_ ?_
    · refine f_chk ?_
      refine f_bpS (fun _ h => fI_tr hS (w_X12_layChain h) (by decide) (by decide)) (fun S3 hS3 => ?_)
      refine v_X12_at_43 hS3 (fun x19 hS3 => ?_) FU (-1) 0 hS3
      exact f_some hS3
    · exact f_some hS
  · exact f_some hS
abbrev rm_X12_bits : Room := { frames := 0, cells := 0, slots := 0, locals := 0 }
theorem kY_X12_bits : kY yX12_bits cX12_bits 3 (some .int) 1 := ⟨kw_1_13, kw_8_37, by decide, by decide, by decide +kernel⟩
def L_X12_bits_4 (k5 : Int32 → Option (Int32)) : Nat → Int32 → Int32 → Option (Int32) := lo2 fun rec3 x1 x2 =>
  (if x2 = 0 then
  k5 x1
 else
  lt (x1 + 1) fun x7 =>
  lt (x2 &&& (x2 - 1)) fun x8 =>
  rec3 x7 x8)
set_option maxRecDepth 100000 in
set_option maxHeartbeats 4000000 in
theorem l_X12_bits_4 {X : KX} {g : KG} {res : Int32} {ws : va_W} (C : kC X g cX12_bits "MarkChainsModel" rm_X12_bits 3) (hR : ∀ (pc : Nat) (lv : List (Nat × Value)), decode cX12_bits pc = .ok (.ireturn, 1) → jW X g (ws) 0 0 pc lv [.int res]) (k5 : Int32 → Option (Int32)) (hk6 : ∀ (x9 : Int32), jJ X g res (ws) 0 0 20 [(1, .int x9)] [] (k5 x9)) : ∀ (n : Nat) (x1 : Int32) (x2 : Int32), jJ X g res (ws) 0 0 4 [(1, .int x1), (2, .int x2)] [] (L_X12_bits_4 k5 n x1 x2) := by
  refine r_lo2 (fun x1 x2 => ws) (fun x1 x2 => [(1, .int x1), (2, .int x2)]) (fun rec3 ih4 x1 x2 => ?_)
  refine r_iload_n (pc := 4) C dX12_bits_4 1 rfl ?_
  refine r_if_eq 20 (pc := 5) C dX12_bits_5 (by decide) ?_ ?_
  · refine r_sub (lv' := [(1, .int x1)]) [0] rfl ?_
    exact hk6 x1
  · refine r_iinc (pc := 8) C dX12_bits_8 (v := 1) (lv' := fun x7 => [(1, .int x7), (2, .int x2)]) 0 rfl (by decide) (by decide) [0, 1] (fun _ => rfl) (fun x7 => ?_)
    refine r_iload_n (pc := 11) C dX12_bits_11 1 rfl ?_
    refine r_iload_n (pc := 12) C dX12_bits_12 1 rfl ?_
    refine r_iconst (pc := 13) C dX12_bits_13 (v := 1) (by decide) ?_
    refine r_isub (pc := 14) C dX12_bits_14 ?_
    refine r_iand (pc := 15) C dX12_bits_15 ?_
    refine r_istoreV_n (pc := 16) C dX12_bits_16 (lv' := fun x8 => [(1, .int x7), (2, .int x8)]) (by decide) [1, 0] (fun _ => rfl) (fun x8 => ?_)
    refine r_goto 4 (pc := 17) C dX12_bits_17 (by decide) ?_
    exact ih4 x7 x8
def f_X12_bits (a0 : Int32) : Option (Int32) :=
  L_X12_bits_4 (fun x10 =>
  some x10) FU 0 a0
set_option maxRecDepth 100000 in
set_option maxHeartbeats 4000000 in
theorem c_X12_bits {g : KG} {ws : va_W} {a0 : Int32} {r : Int32} (h : f_X12_bits a0 = some r) : ∀ l, kM l yX12_bits cX12_bits 3 (some .int) rm_X12_bits g [.int a0] (ws) (ws) (some (.int r)) 0 0 := by
  refine k_open_i (own := "MarkChainsModel") (by decide) rfl (Nat.le_of_ble_eq_true rfl) (fun X C hR => ?_)
  refine (?_ : jJ X g (r : Int32) (ws) 0 0 0 [(0, .int a0)] [] (f_X12_bits a0)) h
  unfold f_X12_bits
  refine r_iconst (pc := 0) C dX12_bits_0 (v := 0) (by decide) ?_
  refine r_istore_n (pc := 1) C dX12_bits_1 (lv' := [(0, .int a0), (1, .int 0)]) (by decide) [1, 0] rfl ?_
  refine r_iload_n (pc := 2) C dX12_bits_2 0 rfl ?_
  refine r_istore_n (pc := 3) C dX12_bits_3 (lv' := [(0, .int a0), (1, .int 0), (2, .int a0)]) (by decide) [1, 2, 0] rfl ?_
  refine r_sub (lv' := [(1, .int 0), (2, .int a0)]) [1, 2] rfl ?_
  refine l_X12_bits_4 C hR _ (fun x10 => ?_) FU 0 a0
  refine r_iload_n (pc := 20) C dX12_bits_20 0 rfl ?_
  exact r_retPI hR (pc := 21) dX12_bits_21
abbrev rm_X12_missing : Room := { frames := 6, cells := 0, slots := 0, locals := 134 }
theorem kY_X12_missing : kY yX12_missing cX12_missing 5 (some .int) 1 := ⟨kw_1_13, kw_8_34, by decide, by decide, by decide +kernel⟩
def L_X12_missing_24 (c1 : Int32) (c2 : Int32) (k8 : MS → Int32 → Option (Int32 × MS)) : Nat → MS → Int32 → Int32 → Option (Int32 × MS) := lo3 fun rec6 S5 x3 x4 =>
  (if 64 ≤ x4 then
  k8 S5 x3
 else
  (if (x4 &&& c2) = 0 then
  jn0 (bp (f_X12_markAt c1) (fun x11 =>
  chk (x11 + 8) 1177 (lt (sa S5 0 (upd (S5.2 0) (x11 + 8).toNatClampNeg (c2 ||| x4))) fun S12 =>
  bw (f_X12_whyNotGood S12 c1) (fun x13 S14 =>
  jn1 (fun (x15 : Int32) =>
  lt (x4 + 1) fun x16 =>
  rec6 S14 x15 x16) (fun k17 =>
  (if x13 = (-1) then
  k17 x4
 else
  k17 x3)))))) (fun k19 =>
  (if x3 = (-1) then
  k19
 else
  bp (f_X12_bits x4) (fun x21 =>
  bp (f_X12_bits x3) (fun x22 =>
  (if x21 < x22 then
  k19
 else
  lt (x4 + 1) fun x23 =>
  rec6 S5 x3 x23)))))
 else
  lt (x4 + 1) fun x10 =>
  rec6 S5 x3 x10))
set_option maxRecDepth 100000 in
set_option maxHeartbeats 4000000 in
theorem l_X12_missing_24 {X : KX} {g : KG} {q : Nat → Nat} {res : Int32 × MS} (C : kC X g cX12_missing "MarkChainsModel" rm_X12_missing 5) (hR : ∀ (pc : Nat) (lv : List (Nat × Value)), decode cX12_missing pc = .ok (.ireturn, 1) → jW X g (mw g q res.2) 0 0 pc lv [.int res.1]) (c1 : Int32) (c2 : Int32) (k8 : MS → Int32 → Option (Int32 × MS)) (hk9 : ∀ (S24 : MS) (x25 : Int32), jJ X g res (mw g q S24) 0 0 96 [(0, .ref (q 0)), (1, .int c1), (2, .int c2), (3, .int x25)] [] (k8 S24 x25)) : ∀ (n : Nat) (S5 : MS) (x3 : Int32) (x4 : Int32), jJ X g res (mw g q S5) 0 0 24 [(0, .ref (q 0)), (1, .int c1), (2, .int c2), (3, .int x3), (4, .int x4)] [] (L_X12_missing_24 c1 c2 k8 n S5 x3 x4) := by
  refine r_lo3 (fun S5 x3 x4 => mw g q S5) (fun S5 x3 x4 => [(0, .ref (q 0)), (1, .int c1), (2, .int c2), (3, .int x3), (4, .int x4)]) (fun rec6 ih7 S5 x3 x4 => ?_)
  refine r_iload (pc := 24) C dX12_missing_24 4 rfl ?_
  refine r_bipush (pc := 26) C dX12_missing_26 (v := 64) (by decide) ?_
  refine r_icmp_ge 96 (pc := 28) C dX12_missing_28 (by decide) ?_ ?_
  · refine r_sub (lv' := [(0, .ref (q 0)), (1, .int c1), (2, .int c2), (3, .int x3)]) [0, 1, 2, 3] rfl ?_
    exact hk9 S5 x3
  · refine r_iload (pc := 31) C dX12_missing_31 4 rfl ?_
    refine r_iload_n (pc := 33) C dX12_missing_33 2 rfl ?_
    refine r_iand (pc := 34) C dX12_missing_34 ?_
    refine r_if_ne 90 (pc := 35) C dX12_missing_35 (by decide) ?_ ?_
    · refine r_iinc (pc := 90) C dX12_missing_90 (v := 1) (lv' := fun x10 => [(0, .ref (q 0)), (1, .int c1), (2, .int c2), (3, .int x3), (4, .int x10)]) 4 rfl (by decide) (by decide) [1, 2, 3, 4, 0] (fun _ => rfl) (fun x10 => ?_)
      refine r_goto 24 (pc := 93) C dX12_missing_93 (by decide) ?_
      exact ih7 S5 x3 x10
    · refine r_iload_n (pc := 38) C dX12_missing_38 3 rfl ?_
      refine r_iconst (pc := 39) C dX12_missing_39 (v := (-1)) (by decide) ?_
      refine r_jn0 58 (mw g q S5) ([(0, .ref (q 0)), (1, .int c1), (2, .int c2), (3, .int x3), (4, .int x4)]) ([]) ?_ (fun k19 hk20 => ?_)
      · refine r_aload_n (pc := 58) C dX12_missing_58 0 rfl ?_
        refine mg_all (pc := 59) C dX12_missing_59 ?_
        refine r_iload_n (pc := 62) C dX12_missing_62 1 rfl ?_
        refine r_cSpi (As := [.int c1]) (st := [.ref (q 1)]) (pc := 63) C (fun _ h => c_X12_markAt h) kY_X12_markAt kw_6_178 kw_6_177 rfl ⟨Nat.le_of_ble_eq_true rfl, Nat.le_of_ble_eq_true rfl⟩ rfl rfl ⟨Nat.zero_le _, Nat.zero_le _⟩ rfl (Nat.le_of_ble_eq_true rfl) dX12_missing_63 (fun x11 => ?_)
        refine r_bipush (pc := 66) C dX12_missing_66 (v := 8) (by decide) ?_
        refine r_iadd (pc := 68) C dX12_missing_68 ?_
        refine r_iload_n (pc := 69) C dX12_missing_69 2 rfl ?_
        refine r_iload (pc := 70) C dX12_missing_70 4 rfl ?_
        refine r_ior (pc := 72) C dX12_missing_72 ?_
        refine ms_all (pc := 73) C dX12_missing_73 (fun S12 => ?_)
        refine r_aload_n (pc := 74) C dX12_missing_74 0 rfl ?_
        refine r_iload_n (pc := 75) C dX12_missing_75 1 rfl ?_
        refine r_cVwi (As := [.int c1]) (st := []) (wf := mw g q) (pc := 76) C (fun _ _ h => c_X12_whyNotGood h) kY_X12_whyNotGood kw_7_15 kw_0_61 kw_7_13 rfl ⟨Nat.le_of_ble_eq_true rfl, Nat.le_of_ble_eq_true rfl⟩ rfl rfl ⟨Nat.zero_le _, Nat.zero_le _⟩ 0 rfl rfl rfl (Nat.le_of_ble_eq_true rfl) dX12_missing_76 (fun x13 S14 => ?_)
        refine r_iconst (pc := 79) C dX12_missing_79 (v := (-1)) (by decide) ?_
        refine r_jn1 89 (fun (x15 : Int32) => mw g q S14) (fun (x15 : Int32) => [(0, .ref (q 0)), (1, .int c1), (2, .int c2), (4, .int x4)]) (fun (x15 : Int32) => [.int x15]) (fun x15 => ?_) (fun k17 hk18 => ?_)
        · refine r_istore_n (pc := 89) C dX12_missing_89 (lv' := [(0, .ref (q 0)), (1, .int c1), (2, .int c2), (3, .int x15), (4, .int x4)]) (by decide) [1, 2, 3, 0, 4] rfl ?_
          refine r_iinc (pc := 90) C dX12_missing_90 (v := 1) (lv' := fun x16 => [(0, .ref (q 0)), (1, .int c1), (2, .int c2), (3, .int x15), (4, .int x16)]) 4 rfl (by decide) (by decide) [1, 2, 3, 4, 0] (fun _ => rfl) (fun x16 => ?_)
          refine r_goto 24 (pc := 93) C dX12_missing_93 (by decide) ?_
          exact ih7 S14 x15 x16
        · refine r_icmp_ne 88 (pc := 80) C dX12_missing_80 (by decide) ?_ ?_
          · refine r_iload_n (pc := 88) C dX12_missing_88 3 rfl ?_
            refine r_sub (lv' := [(0, .ref (q 0)), (1, .int c1), (2, .int c2), (4, .int x4)]) [0, 1, 2, 4] rfl ?_
            exact hk18 x3
          · refine r_iload (pc := 83) C dX12_missing_83 4 rfl ?_
            refine r_goto 89 (pc := 85) C dX12_missing_85 (by decide) ?_
            refine r_sub (lv' := [(0, .ref (q 0)), (1, .int c1), (2, .int c2), (4, .int x4)]) [0, 1, 2, 4] rfl ?_
            exact hk18 x4
      · refine r_icmp_eq 58 (pc := 40) C dX12_missing_40 (by decide) ?_ ?_
        · exact hk20
        · refine r_iload (pc := 43) C dX12_missing_43 4 rfl ?_
          refine r_cSpi (As := [.int x4]) (st := []) (pc := 45) C (fun _ h => c_X12_bits h) kY_X12_bits kw_8_36 kw_8_35 rfl ⟨Nat.le_of_ble_eq_true rfl, Nat.le_of_ble_eq_true rfl⟩ rfl rfl ⟨Nat.zero_le _, Nat.zero_le _⟩ rfl (Nat.le_of_ble_eq_true rfl) dX12_missing_45 (fun x21 => ?_)
          refine r_iload_n (pc := 48) C dX12_missing_48 3 rfl ?_
          refine r_cSpi (As := [.int x3]) (st := [.int x21]) (pc := 49) C (fun _ h => c_X12_bits h) kY_X12_bits kw_8_36 kw_8_35 rfl ⟨Nat.le_of_ble_eq_true rfl, Nat.le_of_ble_eq_true rfl⟩ rfl rfl ⟨Nat.zero_le _, Nat.zero_le _⟩ rfl (Nat.le_of_ble_eq_true rfl) dX12_missing_49 (fun x22 => ?_)
          refine r_icmp_lt 58 (pc := 52) C dX12_missing_52 (by decide) ?_ ?_
          · exact hk20
          · refine r_goto 90 (pc := 55) C dX12_missing_55 (by decide) ?_
            refine r_iinc (pc := 90) C dX12_missing_90 (v := 1) (lv' := fun x23 => [(0, .ref (q 0)), (1, .int c1), (2, .int c2), (3, .int x3), (4, .int x23)]) 4 rfl (by decide) (by decide) [1, 2, 3, 4, 0] (fun _ => rfl) (fun x23 => ?_)
            refine r_goto 24 (pc := 93) C dX12_missing_93 (by decide) ?_
            exact ih7 S5 x3 x23
set_option maxRecDepth 100000 in
theorem v_X12_missing_24 {S0 : MS} {c1 : Int32} {c2 : Int32} {k8 : MS → Int32 → Option (Int32 × MS)} (hk9 : ∀ (S24 : MS) (x25 : Int32), (fI [] [0, 17] S0) S24 → jf (fI [] [0, 17] S0) Prod.snd (k8 S24 x25)) : ∀ (n : Nat) (S5 : MS) (x3 : Int32) (x4 : Int32), (fI [] [0, 17] S0) S5 → jf (fI [] [0, 17] S0) Prod.snd (L_X12_missing_24 c1 c2 k8 n S5 x3 x4) := by
  refine f_lo3 (I := (fI [] [0, 17] S0)) (fun S5 x3 x4 => S5) (fun rec6 ih7 S5 x3 x4 hS5 => ?_)
  refine f_ite ?_ ?_
  · exact hk9 S5 x3 hS5
  · refine f_ite ?_ ?_
    · refine f_jm0 hS5 (fun  hS5 => ?_) (fun k19 hk20 => ?_)
      · refine f_bp (fun x11 => ?_)
        refine f_chk (f_ltS (fI_sa hS5 (by decide)) (fun S12 hS12 => ?_))
        refine f_bwS (fun _ _ h => fI_tr hS12 (w_X12_whyNotGood h) (by decide) (by decide)) (fun x13 S14 hS14 => ?_)
        refine f_jm1 hS14 (fun x15 hS14 => ?_) (fun k17 hk18 => ?_)
        · refine f_lt (fun x16 => ?_)
          exact ih7 S14 x15 x16 hS14
        · refine f_ite ?_ ?_
          · exact hk18 x4 hS14
          · exact hk18 x3 hS14
      · refine f_ite ?_ ?_
        · exact hk20 hS5
        · refine f_bp (fun x21 => ?_)
          refine f_bp (fun x22 => ?_)
          refine f_ite ?_ ?_
          · exact hk20 hS5
          · refine f_lt (fun x23 => ?_)
            exact ih7 S5 x3 x23 hS5
    · refine f_lt (fun x10 => ?_)
      exact ih7 S5 x3 x10 hS5
def f_X12_missing (S : MS) (a1 : Int32) : Option (Int32 × MS) :=
  bp (f_X12_isMark S a1) (fun x1 =>
  (if x1 = true then
  bp (f_X12_of S a1 8) (fun x2 =>
  L_X12_missing_24 a1 x2 (fun S26 x27 =>
  bp (f_X12_markAt a1) (fun x28 =>
  chk (x28 + 8) 1177 (lt (sa S26 0 (upd (S26.2 0) (x28 + 8).toNatClampNeg x2)) fun S29 =>
  some (x27, S29)))) FU S (-1) 0)
 else
  some ((-2), S)))
set_option maxRecDepth 100000 in
set_option maxHeartbeats 4000000 in
theorem c_X12_missing {g : KG} {q : Nat → Nat} {S : MS} {a1 : Int32} {r : Int32} {S' : MS} (h : f_X12_missing S a1 = some (r, S')) : ∀ l, kM l yX12_missing cX12_missing 5 (some .int) rm_X12_missing g [.ref (q 0), .int a1] (mw g q S) (mw g q S') (some (.int r)) 0 0 := by
  refine k_open_i (own := "MarkChainsModel") (by decide) rfl (Nat.le_of_ble_eq_true rfl) (fun X C hR => ?_)
  refine (?_ : jJ X g ((r, S') : Int32 × MS) (mw g q S) 0 0 0 [(0, .ref (q 0)), (1, .int a1)] [] (f_X12_missing S a1)) h
  unfold f_X12_missing
  refine r_aload_n (pc := 0) C dX12_missing_0 0 rfl ?_
  refine r_iload_n (pc := 1) C dX12_missing_1 1 rfl ?_
  refine r_cVpz (As := [.int a1]) (st := []) (pc := 2) C (fun _ h => c_X12_isMark h) kY_X12_isMark kw_7_11 kw_0_60 kw_7_9 rfl ⟨Nat.le_of_ble_eq_true rfl, Nat.le_of_ble_eq_true rfl⟩ rfl rfl ⟨Nat.zero_le _, Nat.zero_le _⟩ 0 rfl rfl rfl (Nat.le_of_ble_eq_true rfl) dX12_missing_2 (fun x1 => ?_)
  refine r_ifb_ne 11 (pc := 5) C dX12_missing_5 (by decide) ?_ ?_
  · refine r_aload_n (pc := 11) C dX12_missing_11 0 rfl ?_
    refine r_iload_n (pc := 12) C dX12_missing_12 1 rfl ?_
    refine r_bipush (pc := 13) C dX12_missing_13 (v := 8) (by decide) ?_
    refine r_cVpi (As := [.int a1, .int 8]) (st := []) (pc := 15) C (fun _ h => c_X12_of h) kY_X12_of kw_7_27 kw_0_64 kw_7_25 rfl ⟨Nat.le_of_ble_eq_true rfl, Nat.le_of_ble_eq_true rfl⟩ rfl rfl ⟨Nat.zero_le _, Nat.zero_le _⟩ 0 rfl rfl rfl (Nat.le_of_ble_eq_true rfl) dX12_missing_15 (fun x2 => ?_)
    refine r_istore_n (pc := 18) C dX12_missing_18 (lv' := [(0, .ref (q 0)), (1, .int a1), (2, .int x2)]) (by decide) [1, 2, 0] rfl ?_
    refine r_iconst (pc := 19) C dX12_missing_19 (v := (-1)) (by decide) ?_
    refine r_istore_n (pc := 20) C dX12_missing_20 (lv' := [(0, .ref (q 0)), (1, .int a1), (2, .int x2), (3, .int (-1))]) (by decide) [1, 2, 3, 0] rfl ?_
    refine r_iconst (pc := 21) C dX12_missing_21 (v := 0) (by decide) ?_
    refine r_istore (pc := 22) C dX12_missing_22 (lv' := [(0, .ref (q 0)), (1, .int a1), (2, .int x2), (3, .int (-1)), (4, .int 0)]) (by decide) [1, 2, 3, 4, 0] rfl ?_
    refine l_X12_missing_24 C hR a1 x2 _ (fun S26 x27 => ?_) FU S (-1) 0
    refine r_aload_n (pc := 96) C dX12_missing_96 0 rfl ?_
    refine mg_all (pc := 97) C dX12_missing_97 ?_
    refine r_iload_n (pc := 100) C dX12_missing_100 1 rfl ?_
    refine r_cSpi (As := [.int a1]) (st := [.ref (q 1)]) (pc := 101) C (fun _ h => c_X12_markAt h) kY_X12_markAt kw_6_178 kw_6_177 rfl ⟨Nat.le_of_ble_eq_true rfl, Nat.le_of_ble_eq_true rfl⟩ rfl rfl ⟨Nat.zero_le _, Nat.zero_le _⟩ rfl (Nat.le_of_ble_eq_true rfl) dX12_missing_101 (fun x28 => ?_)
    refine r_bipush (pc := 104) C dX12_missing_104 (v := 8) (by decide) ?_
    refine r_iadd (pc := 106) C dX12_missing_106 ?_
    refine r_iload_n (pc := 107) C dX12_missing_107 2 rfl ?_
    refine ms_all (pc := 108) C dX12_missing_108 (fun S29 => ?_)
    refine r_iload_n (pc := 109) C dX12_missing_109 3 rfl ?_
    exact r_retWI (wf := mw g q) hR (pc := 110) dX12_missing_110
  · refine r_bipush (pc := 8) C dX12_missing_8 (v := (-2)) (by decide) ?_
    exact r_retWI (wf := mw g q) hR (pc := 10) dX12_missing_10
set_option maxRecDepth 100000 in
theorem w_X12_missing {S : MS} {a1 : Int32} {r : Int32} {S' : MS} (h : f_X12_missing S a1 = some (r, S')) : fI [] [0, 17] S S' := by
  have hS : fI [] [0, 17] S S := fI_rf
  refine (?_ : jf (fI [] [0, 17] S) Prod.snd (f_X12_missing S a1)) _ h
  unfold f_X12_missing
  refine f_bp (fun x1 => ?_)
  refine f_ite ?_ ?_
  · refine f_bp (fun x2 => ?_)
    refine v_X12_missing_24 (fun S26 x27 hS26 => ?_) FU S (-1) 0 hS
    refine f_bp (fun x28 => ?_)
    refine f_chk (f_ltS (fI_sa hS26 (by decide)) (fun S29 hS29 => ?_))
    exact f_some hS29
  · exact f_some hS
abbrev rm_X12_stands : Room := { frames := 6, cells := 0, slots := 0, locals := 138 }
theorem kY_X12_stands : kY yX12_stands cX12_stands 6 (some .int) 2 := ⟨kw_1_13, kw_8_41, by decide, by decide, by decide +kernel⟩
def L_X12_stands_25 (c1 : Int32) (c2 : Int32) (k8 : MS → Int32 → Option (Int32 × MS)) : Nat → MS → Int32 → Int32 → Option (Int32 × MS) := lo3 fun rec6 S5 x3 x4 =>
  (if 22 ≤ x4 then
  k8 S5 x3
 else
  bp (f_X12_isWithin S5 c1 x4) (fun x10 =>
  (if x10 = true then
  jn1 (fun (S11 : MS) =>
  jn1 (fun (x12 : Int32) =>
  jn1 (fun (x13 : Int32) =>
  lt (x3 + x13) fun x14 =>
  lt (x4 + 1) fun x15 =>
  rec6 S11 x14 x15) (fun k16 =>
  jn0 (bp (f_X12_isLinked S11 c1) (fun x18 =>
  (if x18 = true then
  k16 1
 else
  k16 0))) (fun k19 =>
  (if c2 = 0 then
  k19
 else
  (if c2 = 2 then
  k19
 else
  jn0 (k16 0) (fun k21 =>
  (if (S11.1 20) ≤ 0 then
  k21
 else
  chk x12 60 (
  (if (S11.2 19 x12.toNatClampNeg) = c1 then
  k16 1
 else
  k21))))))))) (fun k23 =>
  (if c2 = 1 then
  k23 ((S11.1 20) - 1)
 else
  k23 0))) (fun k25 =>
  (if c2 ≤ 1 then
  bp (f_X12_of S5 c1 0) (fun x27 =>
  chk 4 1177 (
  bp (f_X12_layChain S5 x27 x4 (S5.2 0 (4 : Int32).toNatClampNeg)) (fun S28 =>
  k25 S28)))
 else
  bp (f_X12_of S5 c1 0) (fun x29 =>
  chk 4 1177 (
  bp (f_X12_layList S5 x29 x4 (S5.2 0 (4 : Int32).toNatClampNeg)) (fun S30 =>
  k25 S30)))))
 else
  lt (x4 + 1) fun x31 =>
  rec6 S5 x3 x31)))
set_option maxRecDepth 100000 in
set_option maxHeartbeats 4000000 in
theorem l_X12_stands_25 {X : KX} {g : KG} {q : Nat → Nat} {res : Int32 × MS} (C : kC X g cX12_stands "MarkChainsModel" rm_X12_stands 6) (hR : ∀ (pc : Nat) (lv : List (Nat × Value)), decode cX12_stands pc = .ok (.ireturn, 1) → jW X g (mw g q res.2) 0 0 pc lv [.int res.1]) (c1 : Int32) (c2 : Int32) (k8 : MS → Int32 → Option (Int32 × MS)) (hk9 : ∀ (S32 : MS) (x33 : Int32), jJ X g res (mw g q S32) 0 0 163 [(3, .int x33)] [] (k8 S32 x33)) : ∀ (n : Nat) (S5 : MS) (x3 : Int32) (x4 : Int32), jJ X g res (mw g q S5) 0 0 25 [(0, .ref (q 0)), (1, .int c1), (2, .int c2), (3, .int x3), (4, .int x4)] [] (L_X12_stands_25 c1 c2 k8 n S5 x3 x4) := by
  refine r_lo3 (fun S5 x3 x4 => mw g q S5) (fun S5 x3 x4 => [(0, .ref (q 0)), (1, .int c1), (2, .int c2), (3, .int x3), (4, .int x4)]) (fun rec6 ih7 S5 x3 x4 => ?_)
  refine r_iload (pc := 25) C dX12_stands_25 4 rfl ?_
  refine r_bipush (pc := 27) C dX12_stands_27 (v := 22) (by decide) ?_
  refine r_icmp_ge 163 (pc := 29) C dX12_stands_29 (by decide) ?_ ?_
  · refine r_sub (lv' := [(3, .int x3)]) [3] rfl ?_
    exact hk9 S5 x3
  · refine r_aload_n (pc := 32) C dX12_stands_32 0 rfl ?_
    refine r_iload_n (pc := 33) C dX12_stands_33 1 rfl ?_
    refine r_iload (pc := 34) C dX12_stands_34 4 rfl ?_
    refine r_cVpz (As := [.int c1, .int x4]) (st := []) (pc := 36) C (fun _ h => c_X12_isWithin h) kY_X12_isWithin kw_7_94 kw_0_70 kw_7_92 rfl ⟨Nat.le_of_ble_eq_true rfl, Nat.le_of_ble_eq_true rfl⟩ rfl rfl ⟨Nat.zero_le _, Nat.zero_le _⟩ 0 rfl rfl rfl (Nat.le_of_ble_eq_true rfl) dX12_stands_36 (fun x10 => ?_)
    refine r_ifb_ne 45 (pc := 39) C dX12_stands_39 (by decide) ?_ ?_
    · refine r_iload_n (pc := 45) C dX12_stands_45 2 rfl ?_
      refine r_iconst (pc := 46) C dX12_stands_46 (v := 1) (by decide) ?_
      refine r_jn1 89 (fun (S11 : MS) => mw g q S11) (fun (S11 : MS) => [(0, .ref (q 0)), (1, .int c1), (2, .int c2), (3, .int x3), (4, .int x4)]) (fun (S11 : MS) => []) (fun S11 => ?_) (fun k25 hk26 => ?_)
      · refine r_iload_n (pc := 89) C dX12_stands_89 2 rfl ?_
        refine r_iconst (pc := 90) C dX12_stands_90 (v := 1) (by decide) ?_
        refine r_jn1 104 (fun (x12 : Int32) => mw g q S11) (fun (x12 : Int32) => [(0, .ref (q 0)), (1, .int c1), (2, .int c2), (3, .int x3), (4, .int x4)]) (fun (x12 : Int32) => [.int x12]) (fun x12 => ?_) (fun k23 hk24 => ?_)
        · refine r_istore (pc := 104) C dX12_stands_104 (lv' := [(0, .ref (q 0)), (1, .int c1), (2, .int c2), (3, .int x3), (4, .int x4), (5, .int x12)]) (by decide) [1, 2, 3, 4, 5, 0] rfl ?_
          refine r_iload_n (pc := 106) C dX12_stands_106 3 rfl ?_
          refine r_iload_n (pc := 107) C dX12_stands_107 2 rfl ?_
          refine r_jn1 155 (fun (x13 : Int32) => mw g q S11) (fun (x13 : Int32) => [(0, .ref (q 0)), (1, .int c1), (2, .int c2), (4, .int x4)]) (fun (x13 : Int32) => [.int x13, .int x3]) (fun x13 => ?_) (fun k16 hk17 => ?_)
          · refine r_iadd (pc := 155) C dX12_stands_155 ?_
            refine r_istoreV_n (pc := 156) C dX12_stands_156 (lv' := fun x14 => [(0, .ref (q 0)), (1, .int c1), (2, .int c2), (3, .int x14), (4, .int x4)]) (by decide) [1, 2, 3, 0, 4] (fun _ => rfl) (fun x14 => ?_)
            refine r_iinc (pc := 157) C dX12_stands_157 (v := 1) (lv' := fun x15 => [(0, .ref (q 0)), (1, .int c1), (2, .int c2), (3, .int x14), (4, .int x15)]) 4 rfl (by decide) (by decide) [1, 2, 3, 4, 0] (fun _ => rfl) (fun x15 => ?_)
            refine r_goto 25 (pc := 160) C dX12_stands_160 (by decide) ?_
            exact ih7 S11 x14 x15
          · refine r_jn0 116 (mw g q S11) ([(0, .ref (q 0)), (1, .int c1), (2, .int c2), (4, .int x4)]) ([.int x3]) ?_ (fun k19 hk20 => ?_)
            · refine r_aload_n (pc := 116) C dX12_stands_116 0 rfl ?_
              refine r_iload_n (pc := 117) C dX12_stands_117 1 rfl ?_
              refine r_cVpz (As := [.int c1]) (st := [.int x3]) (pc := 118) C (fun _ h => c_X12_isLinked h) kY_X12_isLinked kw_7_166 kw_0_81 kw_7_164 rfl ⟨Nat.le_of_ble_eq_true rfl, Nat.le_of_ble_eq_true rfl⟩ rfl rfl ⟨Nat.zero_le _, Nat.zero_le _⟩ 0 rfl rfl rfl (Nat.le_of_ble_eq_true rfl) dX12_stands_118 (fun x18 => ?_)
              refine r_ifb_eq 128 (pc := 121) C dX12_stands_121 (by decide) ?_ ?_
              · refine r_iconst (pc := 128) C dX12_stands_128 (v := 0) (by decide) ?_
                refine r_goto 155 (pc := 129) C dX12_stands_129 (by decide) ?_
                exact hk17 0
              · refine r_iconst (pc := 124) C dX12_stands_124 (v := 1) (by decide) ?_
                refine r_goto 155 (pc := 125) C dX12_stands_125 (by decide) ?_
                exact hk17 1
            · refine r_if_eq 116 (pc := 108) C dX12_stands_108 (by decide) ?_ ?_
              · refine r_sub (lv' := [(0, .ref (q 0)), (1, .int c1), (2, .int c2), (4, .int x4)]) [0, 1, 2, 4] rfl ?_
                exact hk20
              · refine r_iload_n (pc := 111) C dX12_stands_111 2 rfl ?_
                refine r_iconst (pc := 112) C dX12_stands_112 (v := 2) (by decide) ?_
                refine r_icmp_ne 132 (pc := 113) C dX12_stands_113 (by decide) ?_ ?_
                · refine r_aload_n (pc := 132) C dX12_stands_132 0 rfl ?_
                  refine mg_links (pc := 133) C dX12_stands_133 ?_
                  refine r_jn0 154 (mw g q S11) ([(0, .ref (q 0)), (1, .int c1), (2, .int c2), (4, .int x4)]) ([.int x3]) ?_ (fun k21 hk22 => ?_)
                  · refine r_iconst (pc := 154) C dX12_stands_154 (v := 0) (by decide) ?_
                    exact hk17 0
                  · refine r_if_le 154 (pc := 136) C dX12_stands_136 (by decide) ?_ ?_
                    · refine r_sub (lv' := [(0, .ref (q 0)), (1, .int c1), (2, .int c2), (4, .int x4)]) [0, 1, 2, 4] rfl ?_
                      exact hk22
                    · refine r_aload_n (pc := 139) C dX12_stands_139 0 rfl ?_
                      refine mg_link (pc := 140) C dX12_stands_140 ?_
                      refine r_iload (pc := 143) C dX12_stands_143 5 rfl ?_
                      refine ml_link (pc := 145) C dX12_stands_145 ?_
                      refine r_iload_n (pc := 146) C dX12_stands_146 1 rfl ?_
                      refine r_icmp_ne 154 (pc := 147) C dX12_stands_147 (by decide) ?_ ?_
                      · refine r_sub (lv' := [(0, .ref (q 0)), (1, .int c1), (2, .int c2), (4, .int x4)]) [0, 1, 2, 4] rfl ?_
                        exact hk22
                      · refine r_iconst (pc := 150) C dX12_stands_150 (v := 1) (by decide) ?_
                        refine r_goto 155 (pc := 151) C dX12_stands_151 (by decide) ?_
                        refine r_sub (lv' := [(0, .ref (q 0)), (1, .int c1), (2, .int c2), (4, .int x4)]) [0, 1, 2, 4] rfl ?_
                        exact hk17 1
                · refine r_sub (lv' := [(0, .ref (q 0)), (1, .int c1), (2, .int c2), (4, .int x4)]) [0, 1, 2, 4] rfl ?_
                  exact hk20
        · refine r_icmp_ne 103 (pc := 91) C dX12_stands_91 (by decide) ?_ ?_
          · refine r_iconst (pc := 103) C dX12_stands_103 (v := 0) (by decide) ?_
            exact hk24 0
          · refine r_aload_n (pc := 94) C dX12_stands_94 0 rfl ?_
            refine mg_links (pc := 95) C dX12_stands_95 ?_
            refine r_iconst (pc := 98) C dX12_stands_98 (v := 1) (by decide) ?_
            refine r_isub (pc := 99) C dX12_stands_99 ?_
            refine r_goto 104 (pc := 100) C dX12_stands_100 (by decide) ?_
            exact hk24 ((S11.1 20) - 1)
      · refine r_icmp_le 71 (pc := 47) C dX12_stands_47 (by decide) ?_ ?_
        · refine r_aload_n (pc := 71) C dX12_stands_71 0 rfl ?_
          refine r_aload_n (pc := 72) C dX12_stands_72 0 rfl ?_
          refine r_iload_n (pc := 73) C dX12_stands_73 1 rfl ?_
          refine r_iconst (pc := 74) C dX12_stands_74 (v := 0) (by decide) ?_
          refine r_cVpi (As := [.int c1, .int 0]) (st := [.ref (q 0)]) (pc := 75) C (fun _ h => c_X12_of h) kY_X12_of kw_7_27 kw_0_64 kw_7_25 rfl ⟨Nat.le_of_ble_eq_true rfl, Nat.le_of_ble_eq_true rfl⟩ rfl rfl ⟨Nat.zero_le _, Nat.zero_le _⟩ 0 rfl rfl rfl (Nat.le_of_ble_eq_true rfl) dX12_stands_75 (fun x27 => ?_)
          refine r_iload (pc := 78) C dX12_stands_78 4 rfl ?_
          refine r_aload_n (pc := 80) C dX12_stands_80 0 rfl ?_
          refine mg_all (pc := 81) C dX12_stands_81 ?_
          refine r_iconst (pc := 84) C dX12_stands_84 (v := 4) (by decide) ?_
          refine ml_all (pc := 85) C dX12_stands_85 ?_
          refine r_cVwv (As := [.int x27, .int x4, .int (S5.2 0 (4 : Int32).toNatClampNeg)]) (st := []) (wf := mw g q) (pc := 86) C (fun _ h => c_X12_layChain h) kY_X12_layChain kw_7_106 kw_0_72 kw_7_104 rfl ⟨Nat.le_of_ble_eq_true rfl, Nat.le_of_ble_eq_true rfl⟩ rfl rfl ⟨Nat.zero_le _, Nat.zero_le _⟩ 0 rfl rfl rfl (Nat.le_of_ble_eq_true rfl) dX12_stands_86 (fun S28 => ?_)
          exact hk26 S28
        · refine r_aload_n (pc := 50) C dX12_stands_50 0 rfl ?_
          refine r_aload_n (pc := 51) C dX12_stands_51 0 rfl ?_
          refine r_iload_n (pc := 52) C dX12_stands_52 1 rfl ?_
          refine r_iconst (pc := 53) C dX12_stands_53 (v := 0) (by decide) ?_
          refine r_cVpi (As := [.int c1, .int 0]) (st := [.ref (q 0)]) (pc := 54) C (fun _ h => c_X12_of h) kY_X12_of kw_7_27 kw_0_64 kw_7_25 rfl ⟨Nat.le_of_ble_eq_true rfl, Nat.le_of_ble_eq_true rfl⟩ rfl rfl ⟨Nat.zero_le _, Nat.zero_le _⟩ 0 rfl rfl rfl (Nat.le_of_ble_eq_true rfl) dX12_stands_54 (fun x29 => ?_)
          refine r_iload (pc := 57) C dX12_stands_57 4 rfl ?_
          refine r_aload_n (pc := 59) C dX12_stands_59 0 rfl ?_
          refine mg_all (pc := 60) C dX12_stands_60 ?_
          refine r_iconst (pc := 63) C dX12_stands_63 (v := 4) (by decide) ?_
          refine ml_all (pc := 64) C dX12_stands_64 ?_
          refine r_cVwv (As := [.int x29, .int x4, .int (S5.2 0 (4 : Int32).toNatClampNeg)]) (st := []) (wf := mw g q) (pc := 65) C (fun _ h => c_X12_layList h) kY_X12_layList kw_7_178 kw_0_83 kw_7_176 rfl ⟨Nat.le_of_ble_eq_true rfl, Nat.le_of_ble_eq_true rfl⟩ rfl rfl ⟨Nat.zero_le _, Nat.zero_le _⟩ 0 rfl rfl rfl (Nat.le_of_ble_eq_true rfl) dX12_stands_65 (fun S30 => ?_)
          refine r_goto 89 (pc := 68) C dX12_stands_68 (by decide) ?_
          exact hk26 S30
    · refine r_goto 157 (pc := 42) C dX12_stands_42 (by decide) ?_
      refine r_iinc (pc := 157) C dX12_stands_157 (v := 1) (lv' := fun x31 => [(0, .ref (q 0)), (1, .int c1), (2, .int c2), (3, .int x3), (4, .int x31)]) 4 rfl (by decide) (by decide) [1, 2, 3, 4, 0] (fun _ => rfl) (fun x31 => ?_)
      refine r_goto 25 (pc := 160) C dX12_stands_160 (by decide) ?_
      exact ih7 S5 x3 x31
set_option maxRecDepth 100000 in
theorem v_X12_stands_25 {S0 : MS} {c1 : Int32} {c2 : Int32} {k8 : MS → Int32 → Option (Int32 × MS)} (hk9 : ∀ (S32 : MS) (x33 : Int32), (fI [20] [18, 19] S0) S32 → jf (fI [20] [18, 19] S0) Prod.snd (k8 S32 x33)) : ∀ (n : Nat) (S5 : MS) (x3 : Int32) (x4 : Int32), (fI [20] [18, 19] S0) S5 → jf (fI [20] [18, 19] S0) Prod.snd (L_X12_stands_25 c1 c2 k8 n S5 x3 x4) := by
  refine f_lo3 (I := (fI [20] [18, 19] S0)) (fun S5 x3 x4 => S5) (fun rec6 ih7 S5 x3 x4 hS5 => ?_)
  refine f_ite ?_ ?_
  · exact hk9 S5 x3 hS5
  · refine f_bp (fun x10 => ?_)
    refine f_ite ?_ ?_
    · refine f_jn1 (fun S11 hS11 => ?_) (fun k25 hk26 => ?_)
      · refine f_jm1 hS11 (fun x12 hS11 => ?_) (fun k23 hk24 => ?_)
        · refine f_jm1 hS11 (fun x13 hS11 => ?_) (fun k16 hk17 => ?_)
          · refine f_lt (fun x14 => ?_)
            refine f_lt (fun x15 => ?_)
            exact ih7 S11 x14 x15 hS11
          · refine f_jm0 hS11 (fun  hS11 => ?_) (fun k19 hk20 => ?_)
            · refine f_bp (fun x18 => ?_)
              refine f_ite ?_ ?_
              · exact hk17 1 hS11
              · exact hk17 0 hS11
            · refine f_ite ?_ ?_
              · exact hk20 hS11
              · refine f_ite ?_ ?_
                · exact hk20 hS11
                · refine f_jm0 hS11 (fun  hS11 => ?_) (fun k21 hk22 => ?_)
                  · exact hk17 0 hS11
                  · refine f_ite ?_ ?_
                    · exact hk22 hS11
                    · refine f_chk ?_
                      refine f_ite ?_ ?_
                      · exact hk17 1 hS11
                      · exact hk22 hS11
        · refine f_ite ?_ ?_
          · exact hk24 ((S11.1 20) - 1) hS11
          · exact hk24 0 hS11
      · refine f_ite ?_ ?_
        · refine f_bp (fun x27 => ?_)
          refine f_chk ?_
          refine f_bpS (fun _ h => fI_tr hS5 (w_X12_layChain h) (by decide) (by decide)) (fun S28 hS28 => ?_)
          exact hk26 S28 hS28
        · refine f_bp (fun x29 => ?_)
          refine f_chk ?_
          refine f_bpS (fun _ h => fI_tr hS5 (w_X12_layList h) (by decide) (by decide)) (fun S30 hS30 => ?_)
          exact hk26 S30 hS30
    · refine f_lt (fun x31 => ?_)
      exact ih7 S5 x3 x31 hS5
def f_X12_stands (S : MS) (a1 : Int32) (a2 : Int32) : Option (Int32 × MS) :=
  bp (f_X12_isMark S a1) (fun x1 =>
  (if x1 = true then
  bp (f_X12_isIn a2 0 3) (fun x2 =>
  (if x2 = true then
  L_X12_stands_25 a1 a2 (fun S34 x35 =>
  some (x35, S34)) FU S 0 0
 else
  some ((-2), S)))
 else
  some ((-2), S)))
set_option maxRecDepth 100000 in
set_option maxHeartbeats 4000000 in
theorem c_X12_stands {g : KG} {q : Nat → Nat} {S : MS} {a1 : Int32} {a2 : Int32} {r : Int32} {S' : MS} (h : f_X12_stands S a1 a2 = some (r, S')) : ∀ l, kM l yX12_stands cX12_stands 6 (some .int) rm_X12_stands g [.ref (q 0), .int a1, .int a2] (mw g q S) (mw g q S') (some (.int r)) 0 0 := by
  refine k_open_i (own := "MarkChainsModel") (by decide) rfl (Nat.le_of_ble_eq_true rfl) (fun X C hR => ?_)
  refine (?_ : jJ X g ((r, S') : Int32 × MS) (mw g q S) 0 0 0 [(0, .ref (q 0)), (1, .int a1), (2, .int a2)] [] (f_X12_stands S a1 a2)) h
  unfold f_X12_stands
  refine r_aload_n (pc := 0) C dX12_stands_0 0 rfl ?_
  refine r_iload_n (pc := 1) C dX12_stands_1 1 rfl ?_
  refine r_cVpz (As := [.int a1]) (st := []) (pc := 2) C (fun _ h => c_X12_isMark h) kY_X12_isMark kw_7_11 kw_0_60 kw_7_9 rfl ⟨Nat.le_of_ble_eq_true rfl, Nat.le_of_ble_eq_true rfl⟩ rfl rfl ⟨Nat.zero_le _, Nat.zero_le _⟩ 0 rfl rfl rfl (Nat.le_of_ble_eq_true rfl) dX12_stands_2 (fun x1 => ?_)
  refine r_ifb_eq 17 (pc := 5) C dX12_stands_5 (by decide) ?_ ?_
  · refine r_bipush (pc := 17) C dX12_stands_17 (v := (-2)) (by decide) ?_
    exact r_retWI (wf := mw g q) hR (pc := 19) dX12_stands_19
  · refine r_iload_n (pc := 8) C dX12_stands_8 2 rfl ?_
    refine r_iconst (pc := 9) C dX12_stands_9 (v := 0) (by decide) ?_
    refine r_iconst (pc := 10) C dX12_stands_10 (v := 3) (by decide) ?_
    refine r_cSpz (As := [.int a2, .int 0, .int 3]) (st := []) (pc := 11) C (fun _ h => c_X12_isIn h) kY_X12_isIn kw_6_124 kw_6_123 rfl ⟨Nat.le_of_ble_eq_true rfl, Nat.le_of_ble_eq_true rfl⟩ rfl rfl ⟨Nat.zero_le _, Nat.zero_le _⟩ rfl (Nat.le_of_ble_eq_true rfl) dX12_stands_11 (fun x2 => ?_)
    refine r_ifb_ne 20 (pc := 14) C dX12_stands_14 (by decide) ?_ ?_
    · refine r_iconst (pc := 20) C dX12_stands_20 (v := 0) (by decide) ?_
      refine r_istore_n (pc := 21) C dX12_stands_21 (lv' := [(0, .ref (q 0)), (1, .int a1), (2, .int a2), (3, .int 0)]) (by decide) [1, 2, 3, 0] rfl ?_
      refine r_iconst (pc := 22) C dX12_stands_22 (v := 0) (by decide) ?_
      refine r_istore (pc := 23) C dX12_stands_23 (lv' := [(0, .ref (q 0)), (1, .int a1), (2, .int a2), (3, .int 0), (4, .int 0)]) (by decide) [1, 2, 3, 4, 0] rfl ?_
      refine l_X12_stands_25 C hR a1 a2 _ (fun S34 x35 => ?_) FU S 0 0
      refine r_iload_n (pc := 163) C dX12_stands_163 0 rfl ?_
      exact r_retWI (wf := mw g q) hR (pc := 164) dX12_stands_164
    · refine r_bipush (pc := 17) C dX12_stands_17 (v := (-2)) (by decide) ?_
      exact r_retWI (wf := mw g q) hR (pc := 19) dX12_stands_19
set_option maxRecDepth 100000 in
theorem w_X12_stands {S : MS} {a1 : Int32} {a2 : Int32} {r : Int32} {S' : MS} (h : f_X12_stands S a1 a2 = some (r, S')) : fI [20] [18, 19] S S' := by
  have hS : fI [20] [18, 19] S S := fI_rf
  refine (?_ : jf (fI [20] [18, 19] S) Prod.snd (f_X12_stands S a1 a2)) _ h
  unfold f_X12_stands
  refine f_bp (fun x1 => ?_)
  refine f_ite ?_ ?_
  · refine f_bp (fun x2 => ?_)
    refine f_ite ?_ ?_
    · refine v_X12_stands_25 (fun S34 x35 hS34 => ?_) FU S 0 0 hS
      exact f_some hS34
    · exact f_some hS
  · exact f_some hS
abbrev rm_X12_holding : Room := { frames := 6, cells := 0, slots := 0, locals := 136 }
theorem kY_X12_holding : kY yX12_holding cX12_holding 5 (some .int) 1 := ⟨kw_1_13, kw_8_45, by decide, by decide, by decide +kernel⟩
def L_X12_holding_36 (c1 : Int32) (c3 : Int32) (k14 : MS → Int32 → Option (Int32 × MS)) : Nat → MS → Int32 → Int32 → Option (Int32 × MS) := lo3 fun rec12 S11 x9 x10 =>
  (if 22 ≤ x10 then
  k14 S11 x9
 else
  jn0 (chk 4 1177 (
  bp (f_X12_layChain S11 c3 x10 (S11.2 0 (4 : Int32).toNatClampNeg)) (fun S16 =>
  bp (f_X12_holdersNow S16) (fun x17 =>
  lt (x9 ||| x17) fun x18 =>
  lt (x10 + 1) fun x19 =>
  rec12 S16 x18 x19)))) (fun k20 =>
  (if c1 = (-1) then
  k20
 else
  (if c3 = c1 then
  k20
 else
  k14 S11 x9))))
set_option maxRecDepth 100000 in
set_option maxHeartbeats 4000000 in
theorem l_X12_holding_36 {X : KX} {g : KG} {q : Nat → Nat} {res : Int32 × MS} (C : kC X g cX12_holding "MarkChainsModel" rm_X12_holding 5) (hR : ∀ (pc : Nat) (lv : List (Nat × Value)), decode cX12_holding pc = .ok (.ireturn, 1) → jW X g (mw g q res.2) 0 0 pc lv [.int res.1]) (c1 : Int32) (c3 : Int32) (k14 : MS → Int32 → Option (Int32 × MS)) (hk15 : ∀ (S22 : MS) (x23 : Int32), jJ X g res (mw g q S22) 0 0 79 [(0, .ref (q 0)), (1, .int c1), (2, .int x23), (3, .int c3)] [] (k14 S22 x23)) : ∀ (n : Nat) (S11 : MS) (x9 : Int32) (x10 : Int32), jJ X g res (mw g q S11) 0 0 36 [(0, .ref (q 0)), (1, .int c1), (2, .int x9), (3, .int c3), (4, .int x10)] [] (L_X12_holding_36 c1 c3 k14 n S11 x9 x10) := by
  refine r_lo3 (fun S11 x9 x10 => mw g q S11) (fun S11 x9 x10 => [(0, .ref (q 0)), (1, .int c1), (2, .int x9), (3, .int c3), (4, .int x10)]) (fun rec12 ih13 S11 x9 x10 => ?_)
  refine r_iload (pc := 36) C dX12_holding_36 4 rfl ?_
  refine r_bipush (pc := 38) C dX12_holding_38 (v := 22) (by decide) ?_
  refine r_icmp_ge 79 (pc := 40) C dX12_holding_40 (by decide) ?_ ?_
  · refine r_sub (lv' := [(0, .ref (q 0)), (1, .int c1), (2, .int x9), (3, .int c3)]) [0, 1, 2, 3] rfl ?_
    exact hk15 S11 x9
  · refine r_iload_n (pc := 43) C dX12_holding_43 1 rfl ?_
    refine r_iconst (pc := 44) C dX12_holding_44 (v := (-1)) (by decide) ?_
    refine r_jn0 53 (mw g q S11) ([(0, .ref (q 0)), (1, .int c1), (2, .int x9), (3, .int c3), (4, .int x10)]) ([]) ?_ (fun k20 hk21 => ?_)
    · refine r_aload_n (pc := 53) C dX12_holding_53 0 rfl ?_
      refine r_iload_n (pc := 54) C dX12_holding_54 3 rfl ?_
      refine r_iload (pc := 55) C dX12_holding_55 4 rfl ?_
      refine r_aload_n (pc := 57) C dX12_holding_57 0 rfl ?_
      refine mg_all (pc := 58) C dX12_holding_58 ?_
      refine r_iconst (pc := 61) C dX12_holding_61 (v := 4) (by decide) ?_
      refine ml_all (pc := 62) C dX12_holding_62 ?_
      refine r_cVwv (As := [.int c3, .int x10, .int (S11.2 0 (4 : Int32).toNatClampNeg)]) (st := []) (wf := mw g q) (pc := 63) C (fun _ h => c_X12_layChain h) kY_X12_layChain kw_7_106 kw_0_72 kw_7_104 rfl ⟨Nat.le_of_ble_eq_true rfl, Nat.le_of_ble_eq_true rfl⟩ rfl rfl ⟨Nat.zero_le _, Nat.zero_le _⟩ 0 rfl rfl rfl (Nat.le_of_ble_eq_true rfl) dX12_holding_63 (fun S16 => ?_)
      refine r_iload_n (pc := 66) C dX12_holding_66 2 rfl ?_
      refine r_aload_n (pc := 67) C dX12_holding_67 0 rfl ?_
      refine r_cVpi (As := []) (st := [.int x9]) (pc := 68) C (fun _ h => c_X12_holdersNow h) kY_X12_holdersNow kw_7_138 kw_0_78 kw_7_136 rfl ⟨Nat.le_of_ble_eq_true rfl, Nat.le_of_ble_eq_true rfl⟩ rfl rfl ⟨Nat.zero_le _, Nat.zero_le _⟩ 0 rfl rfl rfl (Nat.le_of_ble_eq_true rfl) dX12_holding_68 (fun x17 => ?_)
      refine r_ior (pc := 71) C dX12_holding_71 ?_
      refine r_istoreV_n (pc := 72) C dX12_holding_72 (lv' := fun x18 => [(0, .ref (q 0)), (1, .int c1), (2, .int x18), (3, .int c3), (4, .int x10)]) (by decide) [1, 2, 0, 3, 4] (fun _ => rfl) (fun x18 => ?_)
      refine r_iinc (pc := 73) C dX12_holding_73 (v := 1) (lv' := fun x19 => [(0, .ref (q 0)), (1, .int c1), (2, .int x18), (3, .int c3), (4, .int x19)]) 4 rfl (by decide) (by decide) [1, 2, 3, 4, 0] (fun _ => rfl) (fun x19 => ?_)
      refine r_goto 36 (pc := 76) C dX12_holding_76 (by decide) ?_
      exact ih13 S16 x18 x19
    · refine r_icmp_eq 53 (pc := 45) C dX12_holding_45 (by decide) ?_ ?_
      · exact hk21
      · refine r_iload_n (pc := 48) C dX12_holding_48 3 rfl ?_
        refine r_iload_n (pc := 49) C dX12_holding_49 1 rfl ?_
        refine r_icmp_ne 79 (pc := 50) C dX12_holding_50 (by decide) ?_ ?_
        · refine r_sub (lv' := [(0, .ref (q 0)), (1, .int c1), (2, .int x9), (3, .int c3)]) [0, 1, 2, 3] rfl ?_
          exact hk15 S11 x9
        · exact hk21
set_option maxRecDepth 100000 in
theorem v_X12_holding_36 {S0 : MS} {c1 : Int32} {c3 : Int32} {k14 : MS → Int32 → Option (Int32 × MS)} (hk15 : ∀ (S22 : MS) (x23 : Int32), (fI [20] [18, 19] S0) S22 → jf (fI [20] [18, 19] S0) Prod.snd (k14 S22 x23)) : ∀ (n : Nat) (S11 : MS) (x9 : Int32) (x10 : Int32), (fI [20] [18, 19] S0) S11 → jf (fI [20] [18, 19] S0) Prod.snd (L_X12_holding_36 c1 c3 k14 n S11 x9 x10) := by
  refine f_lo3 (I := (fI [20] [18, 19] S0)) (fun S11 x9 x10 => S11) (fun rec12 ih13 S11 x9 x10 hS11 => ?_)
  refine f_ite ?_ ?_
  · exact hk15 S11 x9 hS11
  · refine f_jm0 hS11 (fun  hS11 => ?_) (fun k20 hk21 => ?_)
    · refine f_chk ?_
      refine f_bpS (fun _ h => fI_tr hS11 (w_X12_layChain h) (by decide) (by decide)) (fun S16 hS16 => ?_)
      refine f_bp (fun x17 => ?_)
      refine f_lt (fun x18 => ?_)
      refine f_lt (fun x19 => ?_)
      exact ih13 S16 x18 x19 hS16
    · refine f_ite ?_ ?_
      · exact hk21 hS11
      · refine f_ite ?_ ?_
        · exact hk21 hS11
        · exact hk15 S11 x9 hS11
def L_X12_holding_23 (c1 : Int32) (k7 : MS → Int32 → Option (Int32 × MS)) : Nat → MS → Int32 → Int32 → Option (Int32 × MS) := lo3 fun rec5 S4 x2 x3 =>
  chk 0 1177 (
  (if (S4.2 0 (0 : Int32).toNatClampNeg) ≤ x3 then
  k7 S4 x2
 else
  L_X12_holding_36 c1 x3 (fun S24 x25 =>
  lt (x3 + 1) fun x26 =>
  rec5 S24 x25 x26) FU S4 x2 0))
set_option maxRecDepth 100000 in
set_option maxHeartbeats 4000000 in
theorem l_X12_holding_23 {X : KX} {g : KG} {q : Nat → Nat} {res : Int32 × MS} (C : kC X g cX12_holding "MarkChainsModel" rm_X12_holding 5) (hR : ∀ (pc : Nat) (lv : List (Nat × Value)), decode cX12_holding pc = .ok (.ireturn, 1) → jW X g (mw g q res.2) 0 0 pc lv [.int res.1]) (c1 : Int32) (k7 : MS → Int32 → Option (Int32 × MS)) (hk8 : ∀ (S27 : MS) (x28 : Int32), jJ X g res (mw g q S27) 0 0 85 [(2, .int x28)] [] (k7 S27 x28)) : ∀ (n : Nat) (S4 : MS) (x2 : Int32) (x3 : Int32), jJ X g res (mw g q S4) 0 0 23 [(0, .ref (q 0)), (1, .int c1), (2, .int x2), (3, .int x3)] [] (L_X12_holding_23 c1 k7 n S4 x2 x3) := by
  refine r_lo3 (fun S4 x2 x3 => mw g q S4) (fun S4 x2 x3 => [(0, .ref (q 0)), (1, .int c1), (2, .int x2), (3, .int x3)]) (fun rec5 ih6 S4 x2 x3 => ?_)
  refine r_iload_n (pc := 23) C dX12_holding_23 3 rfl ?_
  refine r_aload_n (pc := 24) C dX12_holding_24 0 rfl ?_
  refine mg_all (pc := 25) C dX12_holding_25 ?_
  refine r_iconst (pc := 28) C dX12_holding_28 (v := 0) (by decide) ?_
  refine ml_all (pc := 29) C dX12_holding_29 ?_
  refine r_icmp_ge 85 (pc := 30) C dX12_holding_30 (by decide) ?_ ?_
  · refine r_sub (lv' := [(2, .int x2)]) [2] rfl ?_
    exact hk8 S4 x2
  · refine r_iconst (pc := 33) C dX12_holding_33 (v := 0) (by decide) ?_
    refine r_istore (pc := 34) C dX12_holding_34 (lv' := [(0, .ref (q 0)), (1, .int c1), (2, .int x2), (3, .int x3), (4, .int 0)]) (by decide) [1, 2, 3, 4, 0] rfl ?_
    refine l_X12_holding_36 C hR c1 x3 _ (fun S24 x25 => ?_) FU S4 x2 0
    refine r_iinc (pc := 79) C dX12_holding_79 (v := 1) (lv' := fun x26 => [(0, .ref (q 0)), (1, .int c1), (2, .int x25), (3, .int x26)]) 3 rfl (by decide) (by decide) [1, 2, 3, 0] (fun _ => rfl) (fun x26 => ?_)
    refine r_goto 23 (pc := 82) C dX12_holding_82 (by decide) ?_
    exact ih6 S24 x25 x26
set_option maxRecDepth 100000 in
theorem v_X12_holding_23 {S0 : MS} {c1 : Int32} {k7 : MS → Int32 → Option (Int32 × MS)} (hk8 : ∀ (S27 : MS) (x28 : Int32), (fI [20] [18, 19] S0) S27 → jf (fI [20] [18, 19] S0) Prod.snd (k7 S27 x28)) : ∀ (n : Nat) (S4 : MS) (x2 : Int32) (x3 : Int32), (fI [20] [18, 19] S0) S4 → jf (fI [20] [18, 19] S0) Prod.snd (L_X12_holding_23 c1 k7 n S4 x2 x3) := by
  refine f_lo3 (I := (fI [20] [18, 19] S0)) (fun S4 x2 x3 => S4) (fun rec5 ih6 S4 x2 x3 hS4 => ?_)
  refine f_chk ?_
  refine f_ite ?_ ?_
  · exact hk8 S4 x2 hS4
  · refine v_X12_holding_36 (fun S24 x25 hS24 => ?_) FU S4 x2 0 hS4
    refine f_lt (fun x26 => ?_)
    exact ih6 S24 x25 x26 hS24
def f_X12_holding (S : MS) (a1 : Int32) : Option (Int32 × MS) :=
  chk 0 1177 (
  bp (f_X12_isIn a1 (-1) ((S.2 0 (0 : Int32).toNatClampNeg) - 1)) (fun x1 =>
  (if x1 = true then
  L_X12_holding_23 a1 (fun S29 x30 =>
  some (x30, S29)) FU S 0 0
 else
  some ((-2), S))))
set_option maxRecDepth 100000 in
set_option maxHeartbeats 4000000 in
theorem c_X12_holding {g : KG} {q : Nat → Nat} {S : MS} {a1 : Int32} {r : Int32} {S' : MS} (h : f_X12_holding S a1 = some (r, S')) : ∀ l, kM l yX12_holding cX12_holding 5 (some .int) rm_X12_holding g [.ref (q 0), .int a1] (mw g q S) (mw g q S') (some (.int r)) 0 0 := by
  refine k_open_i (own := "MarkChainsModel") (by decide) rfl (Nat.le_of_ble_eq_true rfl) (fun X C hR => ?_)
  refine (?_ : jJ X g ((r, S') : Int32 × MS) (mw g q S) 0 0 0 [(0, .ref (q 0)), (1, .int a1)] [] (f_X12_holding S a1)) h
  unfold f_X12_holding
  refine r_iload_n (pc := 0) C dX12_holding_0 1 rfl ?_
  refine r_iconst (pc := 1) C dX12_holding_1 (v := (-1)) (by decide) ?_
  refine r_aload_n (pc := 2) C dX12_holding_2 0 rfl ?_
  refine mg_all (pc := 3) C dX12_holding_3 ?_
  refine r_iconst (pc := 6) C dX12_holding_6 (v := 0) (by decide) ?_
  refine ml_all (pc := 7) C dX12_holding_7 ?_
  refine r_iconst (pc := 8) C dX12_holding_8 (v := 1) (by decide) ?_
  refine r_isub (pc := 9) C dX12_holding_9 ?_
  refine r_cSpz (As := [.int a1, .int (-1), .int ((S.2 0 (0 : Int32).toNatClampNeg) - 1)]) (st := []) (pc := 10) C (fun _ h => c_X12_isIn h) kY_X12_isIn kw_6_124 kw_6_123 rfl ⟨Nat.le_of_ble_eq_true rfl, Nat.le_of_ble_eq_true rfl⟩ rfl rfl ⟨Nat.zero_le _, Nat.zero_le _⟩ rfl (Nat.le_of_ble_eq_true rfl) dX12_holding_10 (fun x1 => ?_)
  refine r_ifb_ne 19 (pc := 13) C dX12_holding_13 (by decide) ?_ ?_
  · refine r_iconst (pc := 19) C dX12_holding_19 (v := 0) (by decide) ?_
    refine r_istore_n (pc := 20) C dX12_holding_20 (lv' := [(0, .ref (q 0)), (1, .int a1), (2, .int 0)]) (by decide) [1, 2, 0] rfl ?_
    refine r_iconst (pc := 21) C dX12_holding_21 (v := 0) (by decide) ?_
    refine r_istore_n (pc := 22) C dX12_holding_22 (lv' := [(0, .ref (q 0)), (1, .int a1), (2, .int 0), (3, .int 0)]) (by decide) [1, 2, 3, 0] rfl ?_
    refine l_X12_holding_23 C hR a1 _ (fun S29 x30 => ?_) FU S 0 0
    refine r_iload_n (pc := 85) C dX12_holding_85 0 rfl ?_
    exact r_retWI (wf := mw g q) hR (pc := 86) dX12_holding_86
  · refine r_bipush (pc := 16) C dX12_holding_16 (v := (-2)) (by decide) ?_
    exact r_retWI (wf := mw g q) hR (pc := 18) dX12_holding_18
set_option maxRecDepth 100000 in
theorem w_X12_holding {S : MS} {a1 : Int32} {r : Int32} {S' : MS} (h : f_X12_holding S a1 = some (r, S')) : fI [20] [18, 19] S S' := by
  have hS : fI [20] [18, 19] S S := fI_rf
  refine (?_ : jf (fI [20] [18, 19] S) Prod.snd (f_X12_holding S a1)) _ h
  unfold f_X12_holding
  refine f_chk ?_
  refine f_bp (fun x1 => ?_)
  refine f_ite ?_ ?_
  · refine v_X12_holding_23 (fun S29 x30 hS29 => ?_) FU S 0 0 hS
    exact f_some hS29
  · exact f_some hS
abbrev rm_X12_drought : Room := { frames := 6, cells := 0, slots := 0, locals := 136 }
theorem kY_X12_drought : kY yX12_drought cX12_drought 7 (some .int) 3 := ⟨kw_1_13, kw_8_49, by decide, by decide, by decide +kernel⟩
def L_X12_drought_26 (S : MS) (c3 : Int32) (k7 : Int32 → Option (Int32 × MS)) : Nat → Int32 → Int32 → Option (Int32 × MS) := lo2 fun rec5 x3 x4 =>
  (if (S.1 20) ≤ x4 then
  k7 x3
 else
  jn1 (fun (x9 : Int32) =>
  chk x4 60 (
  bp (f_X12_of S (S.2 19 x4.toNatClampNeg) 3) (fun x10 =>
  lt (x9 - x10) fun x11 =>
  jn1 (fun (x12 : Int32) =>
  lt (x4 + 1) fun x13 =>
  rec5 x12 x13) (fun k14 =>
  (if x11 ≤ x3 then
  k14 x3
 else
  k14 x11))))) (fun k16 =>
  (if (S.1 20) ≤ (x4 + 1) then
  k16 c3
 else
  chk (x4 + 1) 60 (
  bp (f_X12_of S (S.2 19 (x4 + 1).toNatClampNeg) 3) (fun x18 =>
  k16 x18)))))
set_option maxRecDepth 100000 in
set_option maxHeartbeats 4000000 in
theorem l_X12_drought_26 {X : KX} {g : KG} {q : Nat → Nat} {res : Int32 × MS} {S : MS} (C : kC X g cX12_drought "MarkChainsModel" rm_X12_drought 7) (hR : ∀ (pc : Nat) (lv : List (Nat × Value)), decode cX12_drought pc = .ok (.ireturn, 1) → jW X g (mw g q res.2) 0 0 pc lv [.int res.1]) (c3 : Int32) (k7 : Int32 → Option (Int32 × MS)) (hk8 : ∀ (x19 : Int32), jJ X g res (mw g q S) 0 0 101 [(4, .int x19)] [] (k7 x19)) : ∀ (n : Nat) (x3 : Int32) (x4 : Int32), jJ X g res (mw g q S) 0 0 26 [(0, .ref (q 0)), (3, .int c3), (4, .int x3), (5, .int x4)] [] (L_X12_drought_26 S c3 k7 n x3 x4) := by
  refine r_lo2 (fun x3 x4 => mw g q S) (fun x3 x4 => [(0, .ref (q 0)), (3, .int c3), (4, .int x3), (5, .int x4)]) (fun rec5 ih6 x3 x4 => ?_)
  refine r_iload (pc := 26) C dX12_drought_26 3 rfl ?_
  refine r_aload_n (pc := 28) C dX12_drought_28 0 rfl ?_
  refine mg_links (pc := 29) C dX12_drought_29 ?_
  refine r_icmp_ge 101 (pc := 32) C dX12_drought_32 (by decide) ?_ ?_
  · refine r_sub (lv' := [(4, .int x3)]) [2] rfl ?_
    exact hk8 x3
  · refine r_iload (pc := 35) C dX12_drought_35 3 rfl ?_
    refine r_iconst (pc := 37) C dX12_drought_37 (v := 1) (by decide) ?_
    refine r_iadd (pc := 38) C dX12_drought_38 ?_
    refine r_aload_n (pc := 39) C dX12_drought_39 0 rfl ?_
    refine mg_links (pc := 40) C dX12_drought_40 ?_
    refine r_jn1 64 (fun (x9 : Int32) => mw g q S) (fun (x9 : Int32) => [(0, .ref (q 0)), (3, .int c3), (4, .int x3), (5, .int x4)]) (fun (x9 : Int32) => [.int x9]) (fun x9 => ?_) (fun k16 hk17 => ?_)
    · refine r_aload_n (pc := 64) C dX12_drought_64 0 rfl ?_
      refine r_aload_n (pc := 65) C dX12_drought_65 0 rfl ?_
      refine mg_link (pc := 66) C dX12_drought_66 ?_
      refine r_iload (pc := 69) C dX12_drought_69 3 rfl ?_
      refine ml_link (pc := 71) C dX12_drought_71 ?_
      refine r_iconst (pc := 72) C dX12_drought_72 (v := 3) (by decide) ?_
      refine r_cVpi (As := [.int (S.2 19 x4.toNatClampNeg), .int 3]) (st := [.int x9]) (pc := 73) C (fun _ h => c_X12_of h) kY_X12_of kw_7_27 kw_0_64 kw_7_25 rfl ⟨Nat.le_of_ble_eq_true rfl, Nat.le_of_ble_eq_true rfl⟩ rfl rfl ⟨Nat.zero_le _, Nat.zero_le _⟩ 0 rfl rfl rfl (Nat.le_of_ble_eq_true rfl) dX12_drought_73 (fun x10 => ?_)
      refine r_isub (pc := 76) C dX12_drought_76 ?_
      refine r_istoreV (pc := 77) C dX12_drought_77 (lv' := fun x11 => [(0, .ref (q 0)), (3, .int c3), (4, .int x3), (5, .int x4), (6, .int x11)]) (by decide) [1, 2, 3, 4, 0] (fun _ => rfl) (fun x11 => ?_)
      refine r_iload (pc := 79) C dX12_drought_79 4 rfl ?_
      refine r_iload (pc := 81) C dX12_drought_81 2 rfl ?_
      refine r_jn1 93 (fun (x12 : Int32) => mw g q S) (fun (x12 : Int32) => [(0, .ref (q 0)), (3, .int c3), (5, .int x4)]) (fun (x12 : Int32) => [.int x12]) (fun x12 => ?_) (fun k14 hk15 => ?_)
      · refine r_istore (pc := 93) C dX12_drought_93 (lv' := [(0, .ref (q 0)), (3, .int c3), (4, .int x12), (5, .int x4)]) (by decide) [1, 2, 0, 3] rfl ?_
        refine r_iinc (pc := 95) C dX12_drought_95 (v := 1) (lv' := fun x13 => [(0, .ref (q 0)), (3, .int c3), (4, .int x12), (5, .int x13)]) 3 rfl (by decide) (by decide) [1, 2, 3, 0] (fun _ => rfl) (fun x13 => ?_)
        refine r_goto 26 (pc := 98) C dX12_drought_98 (by decide) ?_
        exact ih6 x12 x13
      · refine r_icmp_le 91 (pc := 83) C dX12_drought_83 (by decide) ?_ ?_
        · refine r_iload (pc := 91) C dX12_drought_91 2 rfl ?_
          refine r_sub (lv' := [(0, .ref (q 0)), (3, .int c3), (5, .int x4)]) [0, 1, 3] rfl ?_
          exact hk15 x3
        · refine r_iload (pc := 86) C dX12_drought_86 4 rfl ?_
          refine r_goto 93 (pc := 88) C dX12_drought_88 (by decide) ?_
          refine r_sub (lv' := [(0, .ref (q 0)), (3, .int c3), (5, .int x4)]) [0, 1, 3] rfl ?_
          exact hk15 x11
    · refine r_icmp_ge 63 (pc := 43) C dX12_drought_43 (by decide) ?_ ?_
      · refine r_iload_n (pc := 63) C dX12_drought_63 1 rfl ?_
        exact hk17 c3
      · refine r_aload_n (pc := 46) C dX12_drought_46 0 rfl ?_
        refine r_aload_n (pc := 47) C dX12_drought_47 0 rfl ?_
        refine mg_link (pc := 48) C dX12_drought_48 ?_
        refine r_iload (pc := 51) C dX12_drought_51 3 rfl ?_
        refine r_iconst (pc := 53) C dX12_drought_53 (v := 1) (by decide) ?_
        refine r_iadd (pc := 54) C dX12_drought_54 ?_
        refine ml_link (pc := 55) C dX12_drought_55 ?_
        refine r_iconst (pc := 56) C dX12_drought_56 (v := 3) (by decide) ?_
        refine r_cVpi (As := [.int (S.2 19 (x4 + 1).toNatClampNeg), .int 3]) (st := []) (pc := 57) C (fun _ h => c_X12_of h) kY_X12_of kw_7_27 kw_0_64 kw_7_25 rfl ⟨Nat.le_of_ble_eq_true rfl, Nat.le_of_ble_eq_true rfl⟩ rfl rfl ⟨Nat.zero_le _, Nat.zero_le _⟩ 0 rfl rfl rfl (Nat.le_of_ble_eq_true rfl) dX12_drought_57 (fun x18 => ?_)
        refine r_goto 64 (pc := 60) C dX12_drought_60 (by decide) ?_
        exact hk17 x18
set_option maxRecDepth 100000 in
theorem v_X12_drought_26 {S0 : MS} {S : MS} {c3 : Int32} (hS : (fI [20] [18, 19] S0) S) {k7 : Int32 → Option (Int32 × MS)} (hk8 : ∀ (x19 : Int32), (fI [20] [18, 19] S0) S → jf (fI [20] [18, 19] S0) Prod.snd (k7 x19)) : ∀ (n : Nat) (x3 : Int32) (x4 : Int32), (fI [20] [18, 19] S0) S → jf (fI [20] [18, 19] S0) Prod.snd (L_X12_drought_26 S c3 k7 n x3 x4) := by
  refine f_lo2 (I := (fI [20] [18, 19] S0)) (fun x3 x4 => S) (fun rec5 ih6 x3 x4 hS => ?_)
  refine f_ite ?_ ?_
  · exact hk8 x3 hS
  · refine f_jm1 hS (fun x9 hS => ?_) (fun k16 hk17 => ?_)
    · refine f_chk ?_
      refine f_bp (fun x10 => ?_)
      refine f_lt (fun x11 => ?_)
      refine f_jm1 hS (fun x12 hS => ?_) (fun k14 hk15 => ?_)
      · refine f_lt (fun x13 => ?_)
        exact ih6 x12 x13 hS
      · refine f_ite ?_ ?_
        · exact hk15 x3 hS
        · exact hk15 x11 hS
    · refine f_ite ?_ ?_
      · exact hk17 c3 hS
      · refine f_chk ?_
        refine f_bp (fun x18 => ?_)
        exact hk17 x18 hS
def f_X12_drought (S : MS) (a1 : Int32) (a2 : Int32) (a3 : Int32) : Option (Int32 × MS) :=
  bp (f_X12_canAsk S a1 a2 a3) (fun x1 =>
  (if x1 = true then
  bp (f_X12_layChain S a1 a2 a3) (fun S2 =>
  L_X12_drought_26 S2 a3 (fun x20 =>
  some (x20, S2)) FU 0 0)
 else
  some ((-2), S)))
set_option maxRecDepth 100000 in
set_option maxHeartbeats 4000000 in
theorem c_X12_drought {g : KG} {q : Nat → Nat} {S : MS} {a1 : Int32} {a2 : Int32} {a3 : Int32} {r : Int32} {S' : MS} (h : f_X12_drought S a1 a2 a3 = some (r, S')) : ∀ l, kM l yX12_drought cX12_drought 7 (some .int) rm_X12_drought g [.ref (q 0), .int a1, .int a2, .int a3] (mw g q S) (mw g q S') (some (.int r)) 0 0 := by
  refine k_open_i (own := "MarkChainsModel") (by decide) rfl (Nat.le_of_ble_eq_true rfl) (fun X C hR => ?_)
  refine (?_ : jJ X g ((r, S') : Int32 × MS) (mw g q S) 0 0 0 [(0, .ref (q 0)), (1, .int a1), (2, .int a2), (3, .int a3)] [] (f_X12_drought S a1 a2 a3)) h
  unfold f_X12_drought
  refine r_aload_n (pc := 0) C dX12_drought_0 0 rfl ?_
  refine r_iload_n (pc := 1) C dX12_drought_1 1 rfl ?_
  refine r_iload_n (pc := 2) C dX12_drought_2 2 rfl ?_
  refine r_iload_n (pc := 3) C dX12_drought_3 3 rfl ?_
  refine r_cVpz (As := [.int a1, .int a2, .int a3]) (st := []) (pc := 4) C (fun _ h => c_X12_canAsk h) kY_X12_canAsk kw_7_102 kw_0_71 kw_7_100 rfl ⟨Nat.le_of_ble_eq_true rfl, Nat.le_of_ble_eq_true rfl⟩ rfl rfl ⟨Nat.zero_le _, Nat.zero_le _⟩ 0 rfl rfl rfl (Nat.le_of_ble_eq_true rfl) dX12_drought_4 (fun x1 => ?_)
  refine r_ifb_ne 13 (pc := 7) C dX12_drought_7 (by decide) ?_ ?_
  · refine r_aload_n (pc := 13) C dX12_drought_13 0 rfl ?_
    refine r_iload_n (pc := 14) C dX12_drought_14 1 rfl ?_
    refine r_iload_n (pc := 15) C dX12_drought_15 2 rfl ?_
    refine r_iload_n (pc := 16) C dX12_drought_16 3 rfl ?_
    refine r_cVwv (As := [.int a1, .int a2, .int a3]) (st := []) (wf := mw g q) (pc := 17) C (fun _ h => c_X12_layChain h) kY_X12_layChain kw_7_106 kw_0_72 kw_7_104 rfl ⟨Nat.le_of_ble_eq_true rfl, Nat.le_of_ble_eq_true rfl⟩ rfl rfl ⟨Nat.zero_le _, Nat.zero_le _⟩ 0 rfl rfl rfl (Nat.le_of_ble_eq_true rfl) dX12_drought_17 (fun S2 => ?_)
    refine r_iconst (pc := 20) C dX12_drought_20 (v := 0) (by decide) ?_
    refine r_istore (pc := 21) C dX12_drought_21 (lv' := [(0, .ref (q 0)), (1, .int a1), (2, .int a2), (3, .int a3), (4, .int 0)]) (by decide) [1, 2, 3, 4, 0] rfl ?_
    refine r_iconst (pc := 23) C dX12_drought_23 (v := 0) (by decide) ?_
    refine r_istore (pc := 24) C dX12_drought_24 (lv' := [(0, .ref (q 0)), (1, .int a1), (2, .int a2), (3, .int a3), (4, .int 0), (5, .int 0)]) (by decide) [1, 2, 3, 4, 5, 0] rfl ?_
    refine r_sub (lv' := [(0, .ref (q 0)), (3, .int a3), (4, .int 0), (5, .int 0)]) [0, 3, 4, 5] rfl ?_
    refine l_X12_drought_26 C hR a3 _ (fun x20 => ?_) FU 0 0
    refine r_iload (pc := 101) C dX12_drought_101 0 rfl ?_
    exact r_retWI (wf := mw g q) hR (pc := 103) dX12_drought_103
  · refine r_bipush (pc := 10) C dX12_drought_10 (v := (-2)) (by decide) ?_
    exact r_retWI (wf := mw g q) hR (pc := 12) dX12_drought_12
set_option maxRecDepth 100000 in
theorem w_X12_drought {S : MS} {a1 : Int32} {a2 : Int32} {a3 : Int32} {r : Int32} {S' : MS} (h : f_X12_drought S a1 a2 a3 = some (r, S')) : fI [20] [18, 19] S S' := by
  have hS : fI [20] [18, 19] S S := fI_rf
  refine (?_ : jf (fI [20] [18, 19] S) Prod.snd (f_X12_drought S a1 a2 a3)) _ h
  unfold f_X12_drought
  refine f_bp (fun x1 => ?_)
  refine f_ite ?_ ?_
  · refine f_bpS (fun _ h => fI_tr hS (w_X12_layChain h) (by decide) (by decide)) (fun S2 hS2 => ?_)
    refine v_X12_drought_26 hS2 (fun x20 hS2 => ?_) FU 0 0 hS2
    exact f_some hS2
  · exact f_some hS
abbrev rm_X12_readAny : Room := { frames := 2, cells := 0, slots := 0, locals := 42 }
theorem kY_X12_readAny : kY yX12_readAny cX12_readAny 3 (some .boolean) 1 := ⟨kw_1_13, kw_8_61, by decide, by decide, by decide +kernel⟩
def f_X12_readAny (S : MS) (a1 : Int32) : Option (Bool × MS) :=
  bp (f_X12_here S) (fun x1 =>
  jn1 (fun (x2 : Int32) =>
  jn1 (fun (S3 : MS) =>
  bw (f_X12_readDigits S3) (fun x4 S5 =>
  (if x4 = true then
  (if x2 = 0 then
  chk a1 120 (lt (sa S5 26 (upd (S5.2 26) a1.toNatClampNeg (S5.1 8))) fun S6 =>
  some (true, S6))
 else
  chk a1 120 (lt (sa S5 26 (upd (S5.2 26) a1.toNatClampNeg (-(S5.1 8)))) fun S7 =>
  some (true, S7)))
 else
  some (false, S5)))) (fun k8 =>
  (if x2 = 0 then
  k8 S
 else
  lt (si S 6 ((S.1 6) + 1)) fun S10 =>
  k8 S10))) (fun k11 =>
  (if x1 = 45 then
  k11 1
 else
  k11 0)))
set_option maxRecDepth 100000 in
set_option maxHeartbeats 4000000 in
theorem c_X12_readAny {g : KG} {q : Nat → Nat} {S : MS} {a1 : Int32} {r : Bool} {S' : MS} (h : f_X12_readAny S a1 = some (r, S')) : ∀ l, kM l yX12_readAny cX12_readAny 3 (some .boolean) rm_X12_readAny g [.ref (q 0), .int a1] (mw g q S) (mw g q S') (some (.int (b2 r))) 0 0 := by
  refine k_open_z (own := "MarkChainsModel") (by decide) rfl (Nat.le_of_ble_eq_true rfl) (fun X C hR => ?_)
  refine (?_ : jJ X g ((r, S') : Bool × MS) (mw g q S) 0 0 0 [(0, .ref (q 0)), (1, .int a1)] [] (f_X12_readAny S a1)) h
  unfold f_X12_readAny
  refine r_aload_n (pc := 0) C dX12_readAny_0 0 rfl ?_
  refine r_cVpi (As := []) (st := []) (pc := 1) C (fun _ h => c_X12_here h) kY_X12_here kw_6_148 kw_0_41 kw_6_146 rfl ⟨Nat.le_of_ble_eq_true rfl, Nat.le_of_ble_eq_true rfl⟩ rfl rfl ⟨Nat.zero_le _, Nat.zero_le _⟩ 0 rfl rfl rfl (Nat.le_of_ble_eq_true rfl) dX12_readAny_1 (fun x1 => ?_)
  refine r_bipush (pc := 4) C dX12_readAny_4 (v := 45) (by decide) ?_
  refine r_jn1 14 (fun (x2 : Int32) => mw g q S) (fun (x2 : Int32) => [(0, .ref (q 0)), (1, .int a1)]) (fun (x2 : Int32) => [.int x2]) (fun x2 => ?_) (fun k11 hk12 => ?_)
  · refine r_istore_n (pc := 14) C dX12_readAny_14 (lv' := [(0, .ref (q 0)), (1, .int a1), (2, .int x2)]) (by decide) [1, 2, 0] rfl ?_
    refine r_iload_n (pc := 15) C dX12_readAny_15 2 rfl ?_
    refine r_jn1 29 (fun (S3 : MS) => mw g q S3) (fun (S3 : MS) => [(0, .ref (q 0)), (1, .int a1), (2, .int x2)]) (fun (S3 : MS) => []) (fun S3 => ?_) (fun k8 hk9 => ?_)
    · refine r_aload_n (pc := 29) C dX12_readAny_29 0 rfl ?_
      refine r_cVwz (As := []) (st := []) (wf := mw g q) (pc := 30) C (fun _ _ h => c_X12_readDigits h) kY_X12_readDigits kw_6_164 kw_0_45 kw_6_162 rfl ⟨Nat.le_of_ble_eq_true rfl, Nat.le_of_ble_eq_true rfl⟩ rfl rfl ⟨Nat.zero_le _, Nat.zero_le _⟩ 0 rfl rfl rfl (Nat.le_of_ble_eq_true rfl) dX12_readAny_30 (fun x4 S5 => ?_)
      refine r_ifb_ne 38 (pc := 33) C dX12_readAny_33 (by decide) ?_ ?_
      · refine r_aload_n (pc := 38) C dX12_readAny_38 0 rfl ?_
        refine mg_act (pc := 39) C dX12_readAny_39 ?_
        refine r_iload_n (pc := 42) C dX12_readAny_42 1 rfl ?_
        refine r_iload_n (pc := 43) C dX12_readAny_43 2 rfl ?_
        refine r_if_eq 55 (pc := 44) C dX12_readAny_44 (by decide) ?_ ?_
        · refine r_aload_n (pc := 55) C dX12_readAny_55 0 rfl ?_
          refine mg_number (pc := 56) C dX12_readAny_56 ?_
          refine ms_act (pc := 59) C dX12_readAny_59 (fun S6 => ?_)
          refine r_iconst (pc := 60) C dX12_readAny_60 (v := 1) (by decide) ?_
          exact r_retWZ hR rfl (pc := 61) dX12_readAny_61
        · refine r_aload_n (pc := 47) C dX12_readAny_47 0 rfl ?_
          refine mg_number (pc := 48) C dX12_readAny_48 ?_
          refine r_ineg (pc := 51) C dX12_readAny_51 ?_
          refine r_goto 59 (pc := 52) C dX12_readAny_52 (by decide) ?_
          refine ms_act (pc := 59) C dX12_readAny_59 (fun S7 => ?_)
          refine r_iconst (pc := 60) C dX12_readAny_60 (v := 1) (by decide) ?_
          exact r_retWZ hR rfl (pc := 61) dX12_readAny_61
      · refine r_iconst (pc := 36) C dX12_readAny_36 (v := 0) (by decide) ?_
        exact r_retWZ hR rfl (pc := 37) dX12_readAny_37
    · refine r_if_eq 29 (pc := 16) C dX12_readAny_16 (by decide) ?_ ?_
      · exact hk9 S
      · refine r_aload_n (pc := 19) C dX12_readAny_19 0 rfl ?_
        refine r_dup (pc := 20) C dX12_readAny_20 rfl ?_
        refine mg_at (pc := 21) C dX12_readAny_21 ?_
        refine r_iconst (pc := 24) C dX12_readAny_24 (v := 1) (by decide) ?_
        refine r_iadd (pc := 25) C dX12_readAny_25 ?_
        refine mp_at (pc := 26) C dX12_readAny_26 (fun S10 => ?_)
        exact hk9 S10
  · refine r_icmp_ne 13 (pc := 6) C dX12_readAny_6 (by decide) ?_ ?_
    · refine r_iconst (pc := 13) C dX12_readAny_13 (v := 0) (by decide) ?_
      exact hk12 0
    · refine r_iconst (pc := 9) C dX12_readAny_9 (v := 1) (by decide) ?_
      refine r_goto 14 (pc := 10) C dX12_readAny_10 (by decide) ?_
      exact hk12 1
set_option maxRecDepth 100000 in
theorem w_X12_readAny {S : MS} {a1 : Int32} {r : Bool} {S' : MS} (h : f_X12_readAny S a1 = some (r, S')) : fI [6, 7, 8] [26] S S' := by
  have hS : fI [6, 7, 8] [26] S S := fI_rf
  refine (?_ : jf (fI [6, 7, 8] [26] S) Prod.snd (f_X12_readAny S a1)) _ h
  unfold f_X12_readAny
  refine f_bp (fun x1 => ?_)
  refine f_jm1 hS (fun x2 hS => ?_) (fun k11 hk12 => ?_)
  · refine f_jn1 (fun S3 hS3 => ?_) (fun k8 hk9 => ?_)
    · refine f_bwS (fun _ _ h => fI_tr hS3 (w_X12_readDigits h) (by decide) (by decide)) (fun x4 S5 hS5 => ?_)
      refine f_ite ?_ ?_
      · refine f_ite ?_ ?_
        · refine f_chk (f_ltS (fI_sa hS5 (by decide)) (fun S6 hS6 => ?_))
          exact f_some hS6
        · refine f_chk (f_ltS (fI_sa hS5 (by decide)) (fun S7 hS7 => ?_))
          exact f_some hS7
      · exact f_some hS5
    · refine f_ite ?_ ?_
      · exact hk9 S hS
      · refine f_ltS (fI_si hS (by decide)) (fun S10 hS10 => ?_)
        exact hk9 S10 hS10
  · refine f_ite ?_ ?_
    · exact hk12 1 hS
    · exact hk12 0 hS
abbrev rm_X12_readAct : Room := { frames := 3, cells := 0, slots := 0, locals := 64 }
theorem kY_X12_readAct : kY yX12_readAct cX12_readAct 3 (some .boolean) 0 := ⟨kw_1_13, kw_8_57, by decide, by decide, by decide +kernel⟩
def f_X12_readAct (S : MS) : Option (Bool × MS) :=
  bp (f_X12_here S) (fun x1 =>
  jn0 (bw (f_X12_fails S (S.1 6)) (fun x2 S3 =>
  some (x2, S3))) (fun k4 =>
  (if (S.1 28) = 30 then
  k4
 else
  jn0 (lt (si S 6 ((S.1 6) + 1)) fun S6 =>
  lt (4 * (S6.1 28)) fun x7 =>
  chk x7 120 (lt (sa S6 26 (upd (S6.2 26) x7.toNatClampNeg x1)) fun S8 =>
  bw (f_X12_readAny S8 (x7 + 1)) (fun x9 S10 =>
  (if x9 = true then
  jn1 (fun (S11 : MS) =>
  jn1 (fun (S12 : MS) =>
  lt (si S12 28 ((S12.1 28) + 1)) fun S13 =>
  bw (f_X12_takes S13 59) (fun x14 S15 =>
  some (x14, S15))) (fun k16 =>
  (if x1 = 98 then
  bw (f_X12_takes S11 44) (fun x18 S19 =>
  (if x18 = true then
  bw (f_X12_readAny S19 (x7 + 3)) (fun x20 S21 =>
  (if x20 = true then
  k16 S21
 else
  some (false, S21)))
 else
  some (false, S19)))
 else
  k16 S11))) (fun k22 =>
  jn0 (bw (f_X12_takes S10 44) (fun x24 S25 =>
  (if x24 = true then
  bw (f_X12_readAny S25 (x7 + 2)) (fun x26 S27 =>
  (if x26 = true then
  k22 S27
 else
  some (false, S27)))
 else
  some (false, S25)))) (fun k28 =>
  (if x1 = 112 then
  k28
 else
  (if x1 = 98 then
  k28
 else
  k22 S10))))
 else
  some (false, S10))))) (fun k30 =>
  (if x1 = 114 then
  k30
 else
  (if x1 = 115 then
  k30
 else
  (if x1 = 100 then
  k30
 else
  (if x1 = 112 then
  k30
 else
  (if x1 = 98 then
  k30
 else
  k4)))))))))
set_option maxRecDepth 100000 in
set_option maxHeartbeats 4000000 in
theorem c_X12_readAct {g : KG} {q : Nat → Nat} {S : MS}  {r : Bool} {S' : MS} (h : f_X12_readAct S = some (r, S')) : ∀ l, kM l yX12_readAct cX12_readAct 3 (some .boolean) rm_X12_readAct g [.ref (q 0)] (mw g q S) (mw g q S') (some (.int (b2 r))) 0 0 := by
  refine k_open_z (own := "MarkChainsModel") (by decide) rfl (Nat.le_of_ble_eq_true rfl) (fun X C hR => ?_)
  refine (?_ : jJ X g ((r, S') : Bool × MS) (mw g q S) 0 0 0 [(0, .ref (q 0))] [] (f_X12_readAct S)) h
  unfold f_X12_readAct
  refine r_aload_n (pc := 0) C dX12_readAct_0 0 rfl ?_
  refine r_cVpi (As := []) (st := []) (pc := 1) C (fun _ h => c_X12_here h) kY_X12_here kw_6_148 kw_0_41 kw_6_146 rfl ⟨Nat.le_of_ble_eq_true rfl, Nat.le_of_ble_eq_true rfl⟩ rfl rfl ⟨Nat.zero_le _, Nat.zero_le _⟩ 0 rfl rfl rfl (Nat.le_of_ble_eq_true rfl) dX12_readAct_1 (fun x1 => ?_)
  refine r_istore_n (pc := 4) C dX12_readAct_4 (lv' := [(0, .ref (q 0)), (1, .int x1)]) (by decide) [1, 0] rfl ?_
  refine r_aload_n (pc := 5) C dX12_readAct_5 0 rfl ?_
  refine mg_actMany (pc := 6) C dX12_readAct_6 ?_
  refine r_bipush (pc := 9) C dX12_readAct_9 (v := 30) (by decide) ?_
  refine r_jn0 44 (mw g q S) ([(0, .ref (q 0))]) ([]) ?_ (fun k4 hk5 => ?_)
  · refine r_aload_n (pc := 44) C dX12_readAct_44 0 rfl ?_
    refine r_aload_n (pc := 45) C dX12_readAct_45 0 rfl ?_
    refine mg_at (pc := 46) C dX12_readAct_46 ?_
    refine r_cVwz (As := [.int (S.1 6)]) (st := []) (wf := mw g q) (pc := 49) C (fun _ _ h => c_X12_fails h) kY_X12_fails kw_6_156 kw_0_43 kw_6_154 rfl ⟨Nat.le_of_ble_eq_true rfl, Nat.le_of_ble_eq_true rfl⟩ rfl rfl ⟨Nat.zero_le _, Nat.zero_le _⟩ 0 rfl rfl rfl (Nat.le_of_ble_eq_true rfl) dX12_readAct_49 (fun x2 S3 => ?_)
    exact r_retWZ hR rfl (pc := 52) dX12_readAct_52
  · refine r_icmp_eq 44 (pc := 11) C dX12_readAct_11 (by decide) ?_ ?_
    · refine r_sub (lv' := [(0, .ref (q 0))]) [0] rfl ?_
      exact hk5
    · refine r_iload_n (pc := 14) C dX12_readAct_14 1 rfl ?_
      refine r_bipush (pc := 15) C dX12_readAct_15 (v := 114) (by decide) ?_
      refine r_jn0 53 (mw g q S) ([(0, .ref (q 0)), (1, .int x1)]) ([]) ?_ (fun k30 hk31 => ?_)
      · refine r_aload_n (pc := 53) C dX12_readAct_53 0 rfl ?_
        refine r_dup (pc := 54) C dX12_readAct_54 rfl ?_
        refine mg_at (pc := 55) C dX12_readAct_55 ?_
        refine r_iconst (pc := 58) C dX12_readAct_58 (v := 1) (by decide) ?_
        refine r_iadd (pc := 59) C dX12_readAct_59 ?_
        refine mp_at (pc := 60) C dX12_readAct_60 (fun S6 => ?_)
        refine r_iconst (pc := 63) C dX12_readAct_63 (v := 4) (by decide) ?_
        refine r_aload_n (pc := 64) C dX12_readAct_64 0 rfl ?_
        refine mg_actMany (pc := 65) C dX12_readAct_65 ?_
        refine r_imul (pc := 68) C dX12_readAct_68 ?_
        refine r_istoreV_n (pc := 69) C dX12_readAct_69 (lv' := fun x7 => [(0, .ref (q 0)), (1, .int x1), (2, .int x7)]) (by decide) [1, 2, 0] (fun _ => rfl) (fun x7 => ?_)
        refine r_aload_n (pc := 70) C dX12_readAct_70 0 rfl ?_
        refine mg_act (pc := 71) C dX12_readAct_71 ?_
        refine r_iload_n (pc := 74) C dX12_readAct_74 2 rfl ?_
        refine r_iload_n (pc := 75) C dX12_readAct_75 1 rfl ?_
        refine ms_act (pc := 76) C dX12_readAct_76 (fun S8 => ?_)
        refine r_aload_n (pc := 77) C dX12_readAct_77 0 rfl ?_
        refine r_iload_n (pc := 78) C dX12_readAct_78 2 rfl ?_
        refine r_iconst (pc := 79) C dX12_readAct_79 (v := 1) (by decide) ?_
        refine r_iadd (pc := 80) C dX12_readAct_80 ?_
        refine r_cVwz (As := [.int (x7 + 1)]) (st := []) (wf := mw g q) (pc := 81) C (fun _ _ h => c_X12_readAny h) kY_X12_readAny kw_8_60 kw_0_93 kw_8_58 rfl ⟨Nat.le_of_ble_eq_true rfl, Nat.le_of_ble_eq_true rfl⟩ rfl rfl ⟨Nat.zero_le _, Nat.zero_le _⟩ 0 rfl rfl rfl (Nat.le_of_ble_eq_true rfl) dX12_readAct_81 (fun x9 S10 => ?_)
        refine r_ifb_ne 89 (pc := 84) C dX12_readAct_84 (by decide) ?_ ?_
        · refine r_iload_n (pc := 89) C dX12_readAct_89 1 rfl ?_
          refine r_bipush (pc := 90) C dX12_readAct_90 (v := 112) (by decide) ?_
          refine r_jn1 122 (fun (S11 : MS) => mw g q S11) (fun (S11 : MS) => [(0, .ref (q 0)), (1, .int x1), (2, .int x7)]) (fun (S11 : MS) => []) (fun S11 => ?_) (fun k22 hk23 => ?_)
          · refine r_iload_n (pc := 122) C dX12_readAct_122 1 rfl ?_
            refine r_bipush (pc := 123) C dX12_readAct_123 (v := 98) (by decide) ?_
            refine r_jn1 149 (fun (S12 : MS) => mw g q S12) (fun (S12 : MS) => [(0, .ref (q 0))]) (fun (S12 : MS) => []) (fun S12 => ?_) (fun k16 hk17 => ?_)
            · refine r_aload_n (pc := 149) C dX12_readAct_149 0 rfl ?_
              refine r_dup (pc := 150) C dX12_readAct_150 rfl ?_
              refine mg_actMany (pc := 151) C dX12_readAct_151 ?_
              refine r_iconst (pc := 154) C dX12_readAct_154 (v := 1) (by decide) ?_
              refine r_iadd (pc := 155) C dX12_readAct_155 ?_
              refine mp_actMany (pc := 156) C dX12_readAct_156 (fun S13 => ?_)
              refine r_aload_n (pc := 159) C dX12_readAct_159 0 rfl ?_
              refine r_bipush (pc := 160) C dX12_readAct_160 (v := 59) (by decide) ?_
              refine r_cVwz (As := [.int 59]) (st := []) (wf := mw g q) (pc := 162) C (fun _ _ h => c_X12_takes h) kY_X12_takes kw_6_171 kw_0_46 kw_6_169 rfl ⟨Nat.le_of_ble_eq_true rfl, Nat.le_of_ble_eq_true rfl⟩ rfl rfl ⟨Nat.zero_le _, Nat.zero_le _⟩ 0 rfl rfl rfl (Nat.le_of_ble_eq_true rfl) dX12_readAct_162 (fun x14 S15 => ?_)
              exact r_retWZ hR rfl (pc := 165) dX12_readAct_165
            · refine r_icmp_ne 149 (pc := 125) C dX12_readAct_125 (by decide) ?_ ?_
              · refine r_sub (lv' := [(0, .ref (q 0))]) [0] rfl ?_
                exact hk17 S11
              · refine r_aload_n (pc := 128) C dX12_readAct_128 0 rfl ?_
                refine r_bipush (pc := 129) C dX12_readAct_129 (v := 44) (by decide) ?_
                refine r_cVwz (As := [.int 44]) (st := []) (wf := mw g q) (pc := 131) C (fun _ _ h => c_X12_takes h) kY_X12_takes kw_6_171 kw_0_46 kw_6_169 rfl ⟨Nat.le_of_ble_eq_true rfl, Nat.le_of_ble_eq_true rfl⟩ rfl rfl ⟨Nat.zero_le _, Nat.zero_le _⟩ 0 rfl rfl rfl (Nat.le_of_ble_eq_true rfl) dX12_readAct_131 (fun x18 S19 => ?_)
                refine r_ifb_eq 147 (pc := 134) C dX12_readAct_134 (by decide) ?_ ?_
                · refine r_iconst (pc := 147) C dX12_readAct_147 (v := 0) (by decide) ?_
                  exact r_retWZ hR rfl (pc := 148) dX12_readAct_148
                · refine r_aload_n (pc := 137) C dX12_readAct_137 0 rfl ?_
                  refine r_iload_n (pc := 138) C dX12_readAct_138 2 rfl ?_
                  refine r_iconst (pc := 139) C dX12_readAct_139 (v := 3) (by decide) ?_
                  refine r_iadd (pc := 140) C dX12_readAct_140 ?_
                  refine r_cVwz (As := [.int (x7 + 3)]) (st := []) (wf := mw g q) (pc := 141) C (fun _ _ h => c_X12_readAny h) kY_X12_readAny kw_8_60 kw_0_93 kw_8_58 rfl ⟨Nat.le_of_ble_eq_true rfl, Nat.le_of_ble_eq_true rfl⟩ rfl rfl ⟨Nat.zero_le _, Nat.zero_le _⟩ 0 rfl rfl rfl (Nat.le_of_ble_eq_true rfl) dX12_readAct_141 (fun x20 S21 => ?_)
                  refine r_ifb_ne 149 (pc := 144) C dX12_readAct_144 (by decide) ?_ ?_
                  · refine r_sub (lv' := [(0, .ref (q 0))]) [0] rfl ?_
                    exact hk17 S21
                  · refine r_iconst (pc := 147) C dX12_readAct_147 (v := 0) (by decide) ?_
                    exact r_retWZ hR rfl (pc := 148) dX12_readAct_148
          · refine r_jn0 101 (mw g q S10) ([(0, .ref (q 0)), (1, .int x1), (2, .int x7)]) ([]) ?_ (fun k28 hk29 => ?_)
            · refine r_aload_n (pc := 101) C dX12_readAct_101 0 rfl ?_
              refine r_bipush (pc := 102) C dX12_readAct_102 (v := 44) (by decide) ?_
              refine r_cVwz (As := [.int 44]) (st := []) (wf := mw g q) (pc := 104) C (fun _ _ h => c_X12_takes h) kY_X12_takes kw_6_171 kw_0_46 kw_6_169 rfl ⟨Nat.le_of_ble_eq_true rfl, Nat.le_of_ble_eq_true rfl⟩ rfl rfl ⟨Nat.zero_le _, Nat.zero_le _⟩ 0 rfl rfl rfl (Nat.le_of_ble_eq_true rfl) dX12_readAct_104 (fun x24 S25 => ?_)
              refine r_ifb_eq 120 (pc := 107) C dX12_readAct_107 (by decide) ?_ ?_
              · refine r_iconst (pc := 120) C dX12_readAct_120 (v := 0) (by decide) ?_
                exact r_retWZ hR rfl (pc := 121) dX12_readAct_121
              · refine r_aload_n (pc := 110) C dX12_readAct_110 0 rfl ?_
                refine r_iload_n (pc := 111) C dX12_readAct_111 2 rfl ?_
                refine r_iconst (pc := 112) C dX12_readAct_112 (v := 2) (by decide) ?_
                refine r_iadd (pc := 113) C dX12_readAct_113 ?_
                refine r_cVwz (As := [.int (x7 + 2)]) (st := []) (wf := mw g q) (pc := 114) C (fun _ _ h => c_X12_readAny h) kY_X12_readAny kw_8_60 kw_0_93 kw_8_58 rfl ⟨Nat.le_of_ble_eq_true rfl, Nat.le_of_ble_eq_true rfl⟩ rfl rfl ⟨Nat.zero_le _, Nat.zero_le _⟩ 0 rfl rfl rfl (Nat.le_of_ble_eq_true rfl) dX12_readAct_114 (fun x26 S27 => ?_)
                refine r_ifb_ne 122 (pc := 117) C dX12_readAct_117 (by decide) ?_ ?_
                · exact hk23 S27
                · refine r_iconst (pc := 120) C dX12_readAct_120 (v := 0) (by decide) ?_
                  exact r_retWZ hR rfl (pc := 121) dX12_readAct_121
            · refine r_icmp_eq 101 (pc := 92) C dX12_readAct_92 (by decide) ?_ ?_
              · exact hk29
              · refine r_iload_n (pc := 95) C dX12_readAct_95 1 rfl ?_
                refine r_bipush (pc := 96) C dX12_readAct_96 (v := 98) (by decide) ?_
                refine r_icmp_ne 122 (pc := 98) C dX12_readAct_98 (by decide) ?_ ?_
                · exact hk23 S10
                · exact hk29
        · refine r_iconst (pc := 87) C dX12_readAct_87 (v := 0) (by decide) ?_
          exact r_retWZ hR rfl (pc := 88) dX12_readAct_88
      · refine r_icmp_eq 53 (pc := 17) C dX12_readAct_17 (by decide) ?_ ?_
        · exact hk31
        · refine r_iload_n (pc := 20) C dX12_readAct_20 1 rfl ?_
          refine r_bipush (pc := 21) C dX12_readAct_21 (v := 115) (by decide) ?_
          refine r_icmp_eq 53 (pc := 23) C dX12_readAct_23 (by decide) ?_ ?_
          · exact hk31
          · refine r_iload_n (pc := 26) C dX12_readAct_26 1 rfl ?_
            refine r_bipush (pc := 27) C dX12_readAct_27 (v := 100) (by decide) ?_
            refine r_icmp_eq 53 (pc := 29) C dX12_readAct_29 (by decide) ?_ ?_
            · exact hk31
            · refine r_iload_n (pc := 32) C dX12_readAct_32 1 rfl ?_
              refine r_bipush (pc := 33) C dX12_readAct_33 (v := 112) (by decide) ?_
              refine r_icmp_eq 53 (pc := 35) C dX12_readAct_35 (by decide) ?_ ?_
              · exact hk31
              · refine r_iload_n (pc := 38) C dX12_readAct_38 1 rfl ?_
                refine r_bipush (pc := 39) C dX12_readAct_39 (v := 98) (by decide) ?_
                refine r_icmp_eq 53 (pc := 41) C dX12_readAct_41 (by decide) ?_ ?_
                · exact hk31
                · refine r_sub (lv' := [(0, .ref (q 0))]) [0] rfl ?_
                  exact hk5
set_option maxRecDepth 100000 in
theorem w_X12_readAct {S : MS}  {r : Bool} {S' : MS} (h : f_X12_readAct S = some (r, S')) : fI [6, 7, 8, 28] [26] S S' := by
  have hS : fI [6, 7, 8, 28] [26] S S := fI_rf
  refine (?_ : jf (fI [6, 7, 8, 28] [26] S) Prod.snd (f_X12_readAct S)) _ h
  unfold f_X12_readAct
  refine f_bp (fun x1 => ?_)
  refine f_jm0 hS (fun  hS => ?_) (fun k4 hk5 => ?_)
  · refine f_bwS (fun _ _ h => fI_tr hS (w_X12_fails h) (by decide) (by decide)) (fun x2 S3 hS3 => ?_)
    exact f_some hS3
  · refine f_ite ?_ ?_
    · exact hk5 hS
    · refine f_jm0 hS (fun  hS => ?_) (fun k30 hk31 => ?_)
      · refine f_ltS (fI_si hS (by decide)) (fun S6 hS6 => ?_)
        refine f_lt (fun x7 => ?_)
        refine f_chk (f_ltS (fI_sa hS6 (by decide)) (fun S8 hS8 => ?_))
        refine f_bwS (fun _ _ h => fI_tr hS8 (w_X12_readAny h) (by decide) (by decide)) (fun x9 S10 hS10 => ?_)
        refine f_ite ?_ ?_
        · refine f_jn1 (fun S11 hS11 => ?_) (fun k22 hk23 => ?_)
          · refine f_jn1 (fun S12 hS12 => ?_) (fun k16 hk17 => ?_)
            · refine f_ltS (fI_si hS12 (by decide)) (fun S13 hS13 => ?_)
              refine f_bwS (fun _ _ h => fI_tr hS13 (w_X12_takes h) (by decide) (by decide)) (fun x14 S15 hS15 => ?_)
              exact f_some hS15
            · refine f_ite ?_ ?_
              · refine f_bwS (fun _ _ h => fI_tr hS11 (w_X12_takes h) (by decide) (by decide)) (fun x18 S19 hS19 => ?_)
                refine f_ite ?_ ?_
                · refine f_bwS (fun _ _ h => fI_tr hS19 (w_X12_readAny h) (by decide) (by decide)) (fun x20 S21 hS21 => ?_)
                  refine f_ite ?_ ?_
                  · exact hk17 S21 hS21
                  · exact f_some hS21
                · exact f_some hS19
              · exact hk17 S11 hS11
          · refine f_jm0 hS10 (fun  hS10 => ?_) (fun k28 hk29 => ?_)
            · refine f_bwS (fun _ _ h => fI_tr hS10 (w_X12_takes h) (by decide) (by decide)) (fun x24 S25 hS25 => ?_)
              refine f_ite ?_ ?_
              · refine f_bwS (fun _ _ h => fI_tr hS25 (w_X12_readAny h) (by decide) (by decide)) (fun x26 S27 hS27 => ?_)
                refine f_ite ?_ ?_
                · exact hk23 S27 hS27
                · exact f_some hS27
              · exact f_some hS25
            · refine f_ite ?_ ?_
              · exact hk29 hS10
              · refine f_ite ?_ ?_
                · exact hk29 hS10
                · exact hk23 S10 hS10
        · exact f_some hS10
      · refine f_ite ?_ ?_
        · exact hk31 hS
        · refine f_ite ?_ ?_
          · exact hk31 hS
          · refine f_ite ?_ ?_
            · exact hk31 hS
            · refine f_ite ?_ ?_
              · exact hk31 hS
              · refine f_ite ?_ ?_
                · exact hk31 hS
                · exact hk5 hS
