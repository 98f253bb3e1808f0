abbrev rm_X12_list : Room := { frames := 6, cells := 0, slots := 0, locals := 138 }
theorem kY_X12_list : kY yX12_list cX12_list 5 (some .int) 4 := ⟨kw_1_13, kw_7_175, by decide, by decide, by decide +kernel⟩
def f_X12_list (S : MS) (a1 : Int32) (a2 : Int32) (a3 : Int32) (a4 : Int32) : Option (Int32 × MS) :=
  bp (f_X12_canAsk S a1 a2 a3) (fun x1 =>
  (if x1 = true then
  bp (f_X12_layList S a1 a2 a3) (fun S2 =>
  (if a4 = (-1) then
  some (S2.1 20, S2)
 else
  bp (f_X12_isIn a4 0 ((S2.1 20) - 1)) (fun x3 =>
  (if x3 = true then
  chk a4 60 (
  some (S2.2 19 a4.toNatClampNeg, S2))
 else
  some ((-2), S2)))))
 else
  some ((-2), S)))
set_option maxRecDepth 100000 in
set_option maxHeartbeats 4000000 in
theorem c_X12_list {g : KG} {q : Nat → Nat} {S : MS} {a1 : Int32} {a2 : Int32} {a3 : Int32} {a4 : Int32} {r : Int32} {S' : MS} (h : f_X12_list S a1 a2 a3 a4 = some (r, S')) : ∀ l, kM l yX12_list cX12_list 5 (some .int) rm_X12_list g [.ref (q 0), .int a1, .int a2, .int a3, .int a4] (mw g q S) (mw g q S') (some (.int r)) 0 0 := by
  refine k_open_i (own := "MarkChainsModel") (by decide) rfl (Nat.le_of_ble_eq_true rfl) (fun X C hR => ?_)
  refine (?_ : jJ X g ((r, S') : Int32 × MS) (mw g q S) 0 0 0 [(0, .ref (q 0)), (1, .int a1), (2, .int a2), (3, .int a3), (4, .int a4)] [] (f_X12_list S a1 a2 a3 a4)) h
  unfold f_X12_list
  refine r_aload_n (pc := 0) C dX12_list_0 0 rfl ?_
  refine r_iload_n (pc := 1) C dX12_list_1 1 rfl ?_
  refine r_iload_n (pc := 2) C dX12_list_2 2 rfl ?_
  refine r_iload_n (pc := 3) C dX12_list_3 3 rfl ?_
  refine r_cVpz (As := [.int a1, .int a2, .int a3]) (st := []) (pc := 4) C (fun _ h => c_X12_canAsk h) kY_X12_canAsk kw_7_102 kw_0_71 kw_7_100 rfl ⟨Nat.le_of_ble_eq_true rfl, Nat.le_of_ble_eq_true rfl⟩ rfl rfl ⟨Nat.zero_le _, Nat.zero_le _⟩ 0 rfl rfl rfl (Nat.le_of_ble_eq_true rfl) dX12_list_4 (fun x1 => ?_)
  refine r_ifb_ne 13 (pc := 7) C dX12_list_7 (by decide) ?_ ?_
  · refine r_aload_n (pc := 13) C dX12_list_13 0 rfl ?_
    refine r_iload_n (pc := 14) C dX12_list_14 1 rfl ?_
    refine r_iload_n (pc := 15) C dX12_list_15 2 rfl ?_
    refine r_iload_n (pc := 16) C dX12_list_16 3 rfl ?_
    refine r_cVwv (As := [.int a1, .int a2, .int a3]) (st := []) (wf := mw g q) (pc := 17) C (fun _ h => c_X12_layList h) kY_X12_layList kw_7_178 kw_0_83 kw_7_176 rfl ⟨Nat.le_of_ble_eq_true rfl, Nat.le_of_ble_eq_true rfl⟩ rfl rfl ⟨Nat.zero_le _, Nat.zero_le _⟩ 0 rfl rfl rfl (Nat.le_of_ble_eq_true rfl) dX12_list_17 (fun S2 => ?_)
    refine r_iload (pc := 20) C dX12_list_20 4 rfl ?_
    refine r_iconst (pc := 22) C dX12_list_22 (v := (-1)) (by decide) ?_
    refine r_icmp_ne 33 (pc := 23) C dX12_list_23 (by decide) ?_ ?_
    · refine r_iload (pc := 33) C dX12_list_33 4 rfl ?_
      refine r_iconst (pc := 35) C dX12_list_35 (v := 0) (by decide) ?_
      refine r_aload_n (pc := 36) C dX12_list_36 0 rfl ?_
      refine mg_links (pc := 37) C dX12_list_37 ?_
      refine r_iconst (pc := 40) C dX12_list_40 (v := 1) (by decide) ?_
      refine r_isub (pc := 41) C dX12_list_41 ?_
      refine r_cSpz (As := [.int a4, .int 0, .int ((S2.1 20) - 1)]) (st := []) (pc := 42) C (fun _ h => c_X12_isIn h) kY_X12_isIn kw_6_124 kw_6_123 rfl ⟨Nat.le_of_ble_eq_true rfl, Nat.le_of_ble_eq_true rfl⟩ rfl rfl ⟨Nat.zero_le _, Nat.zero_le _⟩ rfl (Nat.le_of_ble_eq_true rfl) dX12_list_42 (fun x3 => ?_)
      refine r_ifb_eq 58 (pc := 45) C dX12_list_45 (by decide) ?_ ?_
      · refine r_bipush (pc := 58) C dX12_list_58 (v := (-2)) (by decide) ?_
        exact r_retWI (wf := mw g q) hR (pc := 60) dX12_list_60
      · refine r_aload_n (pc := 48) C dX12_list_48 0 rfl ?_
        refine mg_link (pc := 49) C dX12_list_49 ?_
        refine r_iload (pc := 52) C dX12_list_52 4 rfl ?_
        refine ml_link (pc := 54) C dX12_list_54 ?_
        refine r_goto 60 (pc := 55) C dX12_list_55 (by decide) ?_
        exact r_retWI (wf := mw g q) hR (pc := 60) dX12_list_60
    · refine r_aload_n (pc := 26) C dX12_list_26 0 rfl ?_
      refine mg_links (pc := 27) C dX12_list_27 ?_
      refine r_goto 60 (pc := 30) C dX12_list_30 (by decide) ?_
      exact r_retWI (wf := mw g q) hR (pc := 60) dX12_list_60
  · refine r_bipush (pc := 10) C dX12_list_10 (v := (-2)) (by decide) ?_
    exact r_retWI (wf := mw g q) hR (pc := 12) dX12_list_12
set_option maxRecDepth 100000 in
theorem w_X12_list {S : MS} {a1 : Int32} {a2 : Int32} {a3 : Int32} {a4 : Int32} {r : Int32} {S' : MS} (h : f_X12_list S a1 a2 a3 a4 = some (r, S')) : fI [20] [18, 19] S S' := by
  have hS : fI [20] [18, 19] S S := fI_rf
  refine (?_ : jf (fI [20] [18, 19] S) Prod.snd (f_X12_list S a1 a2 a3 a4)) _ h
  unfold f_X12_list
  refine f_bp (fun x1 => ?_)
  refine f_ite ?_ ?_
  · refine f_bpS (fun _ h => fI_tr hS (w_X12_layList h) (by decide) (by decide)) (fun S2 hS2 => ?_)
    refine f_ite ?_ ?_
    · exact f_some hS2
    · refine f_bp (fun x3 => ?_)
      refine f_ite ?_ ?_
      · refine f_chk ?_
        exact f_some hS2
      · exact f_some hS2
  · exact f_some hS
abbrev rm_X12_rank : Room := { frames := 6, cells := 0, slots := 0, locals := 138 }
theorem kY_X12_rank : kY yX12_rank cX12_rank 4 (some .int) 2 := ⟨kw_1_13, kw_7_187, by decide, by decide, by decide +kernel⟩
def L_X12_rank_37 (S : MS) (c1 : Int32) (k8 : Option (Int32 × MS)) : Nat → Int32 → Option (Int32 × MS) := lo1 fun rec6 x5 =>
  (if (S.1 20) ≤ x5 then
  k8
 else
  chk x5 60 (
  (if (S.2 19 x5.toNatClampNeg) = c1 then
  some (x5, S)
 else
  lt (x5 + 1) fun x10 =>
  rec6 x10)))
set_option maxRecDepth 100000 in
set_option maxHeartbeats 4000000 in
theorem l_X12_rank_37 {X : KX} {g : KG} {q : Nat → Nat} {res : Int32 × MS} {S : MS} (C : kC X g cX12_rank "MarkChainsModel" rm_X12_rank 4) (hR : ∀ (pc : Nat) (lv : List (Nat × Value)), decode cX12_rank pc = .ok (.ireturn, 1) → jW X g (mw g q res.2) 0 0 pc lv [.int res.1]) (c1 : Int32) (k8 : Option (Int32 × MS)) (hk9 : jJ X g res (mw g q S) 0 0 63 [] [] k8) : ∀ (n : Nat) (x5 : Int32), jJ X g res (mw g q S) 0 0 37 [(0, .ref (q 0)), (1, .int c1), (3, .int x5)] [] (L_X12_rank_37 S c1 k8 n x5) := by
  refine r_lo1 (fun x5 => mw g q S) (fun x5 => [(0, .ref (q 0)), (1, .int c1), (3, .int x5)]) (fun rec6 ih7 x5 => ?_)
  refine r_iload_n (pc := 37) C dX12_rank_37 2 rfl ?_
  refine r_aload_n (pc := 38) C dX12_rank_38 0 rfl ?_
  refine mg_links (pc := 39) C dX12_rank_39 ?_
  refine r_icmp_ge 63 (pc := 42) C dX12_rank_42 (by decide) ?_ ?_
  · refine r_sub (lv' := []) [] rfl ?_
    exact hk9
  · refine r_aload_n (pc := 45) C dX12_rank_45 0 rfl ?_
    refine mg_link (pc := 46) C dX12_rank_46 ?_
    refine r_iload_n (pc := 49) C dX12_rank_49 2 rfl ?_
    refine ml_link (pc := 50) C dX12_rank_50 ?_
    refine r_iload_n (pc := 51) C dX12_rank_51 1 rfl ?_
    refine r_icmp_ne 57 (pc := 52) C dX12_rank_52 (by decide) ?_ ?_
    · refine r_iinc (pc := 57) C dX12_rank_57 (v := 1) (lv' := fun x10 => [(0, .ref (q 0)), (1, .int c1), (3, .int x10)]) 2 rfl (by decide) (by decide) [1, 2, 0] (fun _ => rfl) (fun x10 => ?_)
      refine r_goto 37 (pc := 60) C dX12_rank_60 (by decide) ?_
      exact ih7 x10
    · refine r_iload_n (pc := 55) C dX12_rank_55 2 rfl ?_
      exact r_retWI (wf := mw g q) hR (pc := 56) dX12_rank_56
set_option maxRecDepth 100000 in
theorem v_X12_rank_37 {S0 : MS} {S : MS} {c1 : Int32} (hS : (fI [20] [18, 19] S0) S) {k8 : Option (Int32 × MS)} (hk9 : (fI [20] [18, 19] S0) S → jf (fI [20] [18, 19] S0) Prod.snd k8) : ∀ (n : Nat) (x5 : Int32), (fI [20] [18, 19] S0) S → jf (fI [20] [18, 19] S0) Prod.snd (L_X12_rank_37 S c1 k8 n x5) := by
  refine f_lo1 (I := (fI [20] [18, 19] S0)) (fun x5 => S) (fun rec6 ih7 x5 hS => ?_)
  refine f_ite ?_ ?_
  · exact hk9 hS
  · refine f_chk ?_
    refine f_ite ?_ ?_
    · exact f_some hS
    · refine f_lt (fun x10 => ?_)
      exact ih7 x10 hS
def f_X12_rank (S : MS) (a1 : Int32) (a2 : Int32) : Option (Int32 × MS) :=
  bp (f_X12_isMark S a1) (fun x1 =>
  (if x1 = true then
  bp (f_X12_isScope a2) (fun x2 =>
  (if x2 = true then
  bp (f_X12_of S a1 0) (fun x3 =>
  chk 4 1177 (
  bp (f_X12_layList S x3 a2 (S.2 0 (4 : Int32).toNatClampNeg)) (fun S4 =>
  L_X12_rank_37 S4 a1 (some ((-1), S4)) FU 0)))
 else
  some ((-2), S)))
 else
  some ((-2), S)))
set_option maxRecDepth 100000 in
set_option maxHeartbeats 4000000 in
theorem c_X12_rank {g : KG} {q : Nat → Nat} {S : MS} {a1 : Int32} {a2 : Int32} {r : Int32} {S' : MS} (h : f_X12_rank S a1 a2 = some (r, S')) : ∀ l, kM l yX12_rank cX12_rank 4 (some .int) rm_X12_rank g [.ref (q 0), .int a1, .int a2] (mw g q S) (mw g q S') (some (.int r)) 0 0 := by
  refine k_open_i (own := "MarkChainsModel") (by decide) rfl (Nat.le_of_ble_eq_true rfl) (fun X C hR => ?_)
  refine (?_ : jJ X g ((r, S') : Int32 × MS) (mw g q S) 0 0 0 [(0, .ref (q 0)), (1, .int a1), (2, .int a2)] [] (f_X12_rank S a1 a2)) h
  unfold f_X12_rank
  refine r_aload_n (pc := 0) C dX12_rank_0 0 rfl ?_
  refine r_iload_n (pc := 1) C dX12_rank_1 1 rfl ?_
  refine r_cVpz (As := [.int a1]) (st := []) (pc := 2) C (fun _ h => c_X12_isMark h) kY_X12_isMark kw_7_11 kw_0_60 kw_7_9 rfl ⟨Nat.le_of_ble_eq_true rfl, Nat.le_of_ble_eq_true rfl⟩ rfl rfl ⟨Nat.zero_le _, Nat.zero_le _⟩ 0 rfl rfl rfl (Nat.le_of_ble_eq_true rfl) dX12_rank_2 (fun x1 => ?_)
  refine r_ifb_eq 15 (pc := 5) C dX12_rank_5 (by decide) ?_ ?_
  · refine r_bipush (pc := 15) C dX12_rank_15 (v := (-2)) (by decide) ?_
    exact r_retWI (wf := mw g q) hR (pc := 17) dX12_rank_17
  · refine r_iload_n (pc := 8) C dX12_rank_8 2 rfl ?_
    refine r_cSpz (As := [.int a2]) (st := []) (pc := 9) C (fun _ h => c_X12_isScope h) kY_X12_isScope kw_7_90 kw_7_89 rfl ⟨Nat.le_of_ble_eq_true rfl, Nat.le_of_ble_eq_true rfl⟩ rfl rfl ⟨Nat.zero_le _, Nat.zero_le _⟩ rfl (Nat.le_of_ble_eq_true rfl) dX12_rank_9 (fun x2 => ?_)
    refine r_ifb_ne 18 (pc := 12) C dX12_rank_12 (by decide) ?_ ?_
    · refine r_aload_n (pc := 18) C dX12_rank_18 0 rfl ?_
      refine r_aload_n (pc := 19) C dX12_rank_19 0 rfl ?_
      refine r_iload_n (pc := 20) C dX12_rank_20 1 rfl ?_
      refine r_iconst (pc := 21) C dX12_rank_21 (v := 0) (by decide) ?_
      refine r_cVpi (As := [.int a1, .int 0]) (st := [.ref (q 0)]) (pc := 22) C (fun _ h => c_X12_of h) kY_X12_of kw_7_27 kw_0_64 kw_7_25 rfl ⟨Nat.le_of_ble_eq_true rfl, Nat.le_of_ble_eq_true rfl⟩ rfl rfl ⟨Nat.zero_le _, Nat.zero_le _⟩ 0 rfl rfl rfl (Nat.le_of_ble_eq_true rfl) dX12_rank_22 (fun x3 => ?_)
      refine r_iload_n (pc := 25) C dX12_rank_25 2 rfl ?_
      refine r_aload_n (pc := 26) C dX12_rank_26 0 rfl ?_
      refine mg_all (pc := 27) C dX12_rank_27 ?_
      refine r_iconst (pc := 30) C dX12_rank_30 (v := 4) (by decide) ?_
      refine ml_all (pc := 31) C dX12_rank_31 ?_
      refine r_cVwv (As := [.int x3, .int a2, .int (S.2 0 (4 : Int32).toNatClampNeg)]) (st := []) (wf := mw g q) (pc := 32) C (fun _ h => c_X12_layList h) kY_X12_layList kw_7_178 kw_0_83 kw_7_176 rfl ⟨Nat.le_of_ble_eq_true rfl, Nat.le_of_ble_eq_true rfl⟩ rfl rfl ⟨Nat.zero_le _, Nat.zero_le _⟩ 0 rfl rfl rfl (Nat.le_of_ble_eq_true rfl) dX12_rank_32 (fun S4 => ?_)
      refine r_iconst (pc := 35) C dX12_rank_35 (v := 0) (by decide) ?_
      refine r_istore_n (pc := 36) C dX12_rank_36 (lv' := [(0, .ref (q 0)), (1, .int a1), (2, .int a2), (3, .int 0)]) (by decide) [1, 2, 3, 0] rfl ?_
      refine r_sub (lv' := [(0, .ref (q 0)), (1, .int a1), (3, .int 0)]) [0, 1, 3] rfl ?_
      refine l_X12_rank_37 C hR a1 _ (?_) FU 0
      refine r_iconst (pc := 63) C dX12_rank_63 (v := (-1)) (by decide) ?_
      exact r_retWI (wf := mw g q) hR (pc := 64) dX12_rank_64
    · refine r_bipush (pc := 15) C dX12_rank_15 (v := (-2)) (by decide) ?_
      exact r_retWI (wf := mw g q) hR (pc := 17) dX12_rank_17
set_option maxRecDepth 100000 in
theorem w_X12_rank {S : MS} {a1 : Int32} {a2 : Int32} {r : Int32} {S' : MS} (h : f_X12_rank S a1 a2 = some (r, S')) : fI [20] [18, 19] S S' := by
  have hS : fI [20] [18, 19] S S := fI_rf
  refine (?_ : jf (fI [20] [18, 19] S) Prod.snd (f_X12_rank S a1 a2)) _ h
  unfold f_X12_rank
  refine f_bp (fun x1 => ?_)
  refine f_ite ?_ ?_
  · refine f_bp (fun x2 => ?_)
    refine f_ite ?_ ?_
    · refine f_bp (fun x3 => ?_)
      refine f_chk ?_
      refine f_bpS (fun _ h => fI_tr hS (w_X12_layList h) (by decide) (by decide)) (fun S4 hS4 => ?_)
      refine v_X12_rank_37 hS4 (fun  hS4 => ?_) FU 0 hS4
      exact f_some hS4
    · exact f_some hS
  · exact f_some hS
abbrev rm_X12_wished : Room := { frames := 6, cells := 0, slots := 0, locals := 136 }
theorem kY_X12_wished : kY yX12_wished cX12_wished 5 (some .int) 3 := ⟨kw_1_13, kw_7_191, by decide, by decide, by decide +kernel⟩
def f_X12_wished (S : MS) (a1 : Int32) (a2 : Int32) (a3 : Int32) : Option (Int32 × MS) :=
  bp (f_X12_canAsk S a1 a2 a3) (fun x1 =>
  (if x1 = true then
  bp (f_X12_layChain S a1 a2 a3) (fun S2 =>
  (if (S2.1 20) = 0 then
  some ((-1), S2)
 else
  bp (f_X12_recordNow S2) (fun x3 =>
  chk (5 + (2 * a1)) 1177 (
  jn1 (fun (x4 : Int32) =>
  lt (x3 + x4) fun x5 =>
  bp (f_X12_isIn x5 1 1000000) (fun x6 =>
  (if x6 = true then
  some (x5, S2)
 else
  some (0, S2)))) (fun k7 =>
  (if (S2.2 0 (5 + (2 * a1)).toNatClampNeg) = 0 then
  k7 (-1)
 else
  k7 1))))))
 else
  some ((-2), S)))
set_option maxRecDepth 100000 in
set_option maxHeartbeats 4000000 in
theorem c_X12_wished {g : KG} {q : Nat → Nat} {S : MS} {a1 : Int32} {a2 : Int32} {a3 : Int32} {r : Int32} {S' : MS} (h : f_X12_wished S a1 a2 a3 = some (r, S')) : ∀ l, kM l yX12_wished cX12_wished 5 (some .int) rm_X12_wished g [.ref (q 0), .int a1, .int a2, .int a3] (mw g q S) (mw g q S') (some (.int r)) 0 0 := by
  refine k_open_i (own := "MarkChainsModel") (by decide) rfl (Nat.le_of_ble_eq_true rfl) (fun X C hR => ?_)
  refine (?_ : jJ X g ((r, S') : Int32 × MS) (mw g q S) 0 0 0 [(0, .ref (q 0)), (1, .int a1), (2, .int a2), (3, .int a3)] [] (f_X12_wished S a1 a2 a3)) h
  unfold f_X12_wished
  refine r_aload_n (pc := 0) C dX12_wished_0 0 rfl ?_
  refine r_iload_n (pc := 1) C dX12_wished_1 1 rfl ?_
  refine r_iload_n (pc := 2) C dX12_wished_2 2 rfl ?_
  refine r_iload_n (pc := 3) C dX12_wished_3 3 rfl ?_
  refine r_cVpz (As := [.int a1, .int a2, .int a3]) (st := []) (pc := 4) C (fun _ h => c_X12_canAsk h) kY_X12_canAsk kw_7_102 kw_0_71 kw_7_100 rfl ⟨Nat.le_of_ble_eq_true rfl, Nat.le_of_ble_eq_true rfl⟩ rfl rfl ⟨Nat.zero_le _, Nat.zero_le _⟩ 0 rfl rfl rfl (Nat.le_of_ble_eq_true rfl) dX12_wished_4 (fun x1 => ?_)
  refine r_ifb_ne 13 (pc := 7) C dX12_wished_7 (by decide) ?_ ?_
  · refine r_aload_n (pc := 13) C dX12_wished_13 0 rfl ?_
    refine r_iload_n (pc := 14) C dX12_wished_14 1 rfl ?_
    refine r_iload_n (pc := 15) C dX12_wished_15 2 rfl ?_
    refine r_iload_n (pc := 16) C dX12_wished_16 3 rfl ?_
    refine r_cVwv (As := [.int a1, .int a2, .int a3]) (st := []) (wf := mw g q) (pc := 17) C (fun _ h => c_X12_layChain h) kY_X12_layChain kw_7_106 kw_0_72 kw_7_104 rfl ⟨Nat.le_of_ble_eq_true rfl, Nat.le_of_ble_eq_true rfl⟩ rfl rfl ⟨Nat.zero_le _, Nat.zero_le _⟩ 0 rfl rfl rfl (Nat.le_of_ble_eq_true rfl) dX12_wished_17 (fun S2 => ?_)
    refine r_aload_n (pc := 20) C dX12_wished_20 0 rfl ?_
    refine mg_links (pc := 21) C dX12_wished_21 ?_
    refine r_if_ne 29 (pc := 24) C dX12_wished_24 (by decide) ?_ ?_
    · refine r_aload_n (pc := 29) C dX12_wished_29 0 rfl ?_
      refine r_cVpi (As := []) (st := []) (pc := 30) C (fun _ h => c_X12_recordNow h) kY_X12_recordNow kw_7_126 kw_0_76 kw_7_124 rfl ⟨Nat.le_of_ble_eq_true rfl, Nat.le_of_ble_eq_true rfl⟩ rfl rfl ⟨Nat.zero_le _, Nat.zero_le _⟩ 0 rfl rfl rfl (Nat.le_of_ble_eq_true rfl) dX12_wished_30 (fun x3 => ?_)
      refine r_aload_n (pc := 33) C dX12_wished_33 0 rfl ?_
      refine mg_all (pc := 34) C dX12_wished_34 ?_
      refine r_iconst (pc := 37) C dX12_wished_37 (v := 5) (by decide) ?_
      refine r_iconst (pc := 38) C dX12_wished_38 (v := 2) (by decide) ?_
      refine r_iload_n (pc := 39) C dX12_wished_39 1 rfl ?_
      refine r_imul (pc := 40) C dX12_wished_40 ?_
      refine r_iadd (pc := 41) C dX12_wished_41 ?_
      refine ml_all (pc := 42) C dX12_wished_42 ?_
      refine r_jn1 51 (fun (x4 : Int32) => mw g q S2) (fun (x4 : Int32) => []) (fun (x4 : Int32) => [.int x4, .int x3]) (fun x4 => ?_) (fun k7 hk8 => ?_)
      · refine r_iadd (pc := 51) C dX12_wished_51 ?_
        refine r_istoreV (pc := 52) C dX12_wished_52 (lv' := fun x5 => [(4, .int x5)]) (by decide) [0] (fun _ => rfl) (fun x5 => ?_)
        refine r_iload (pc := 54) C dX12_wished_54 0 rfl ?_
        refine r_iconst (pc := 56) C dX12_wished_56 (v := 1) (by decide) ?_
        refine r_ldc (pc := 57) C dX12_wished_57 kw_6_188 ?_
        refine r_cSpz (As := [.int x5, .int 1, .int 1000000]) (st := []) (pc := 59) C (fun _ h => c_X12_isIn h) kY_X12_isIn kw_6_124 kw_6_123 rfl ⟨Nat.le_of_ble_eq_true rfl, Nat.le_of_ble_eq_true rfl⟩ rfl rfl ⟨Nat.zero_le _, Nat.zero_le _⟩ rfl (Nat.le_of_ble_eq_true rfl) dX12_wished_59 (fun x6 => ?_)
        refine r_ifb_eq 70 (pc := 62) C dX12_wished_62 (by decide) ?_ ?_
        · refine r_iconst (pc := 70) C dX12_wished_70 (v := 0) (by decide) ?_
          exact r_retWI (wf := mw g q) hR (pc := 71) dX12_wished_71
        · refine r_iload (pc := 65) C dX12_wished_65 0 rfl ?_
          refine r_goto 71 (pc := 67) C dX12_wished_67 (by decide) ?_
          exact r_retWI (wf := mw g q) hR (pc := 71) dX12_wished_71
      · refine r_if_ne 50 (pc := 43) C dX12_wished_43 (by decide) ?_ ?_
        · refine r_iconst (pc := 50) C dX12_wished_50 (v := 1) (by decide) ?_
          refine r_sub (lv' := []) [] rfl ?_
          exact hk8 1
        · refine r_iconst (pc := 46) C dX12_wished_46 (v := (-1)) (by decide) ?_
          refine r_goto 51 (pc := 47) C dX12_wished_47 (by decide) ?_
          refine r_sub (lv' := []) [] rfl ?_
          exact hk8 (-1)
    · refine r_iconst (pc := 27) C dX12_wished_27 (v := (-1)) (by decide) ?_
      exact r_retWI (wf := mw g q) hR (pc := 28) dX12_wished_28
  · refine r_bipush (pc := 10) C dX12_wished_10 (v := (-2)) (by decide) ?_
    exact r_retWI (wf := mw g q) hR (pc := 12) dX12_wished_12
set_option maxRecDepth 100000 in
theorem w_X12_wished {S : MS} {a1 : Int32} {a2 : Int32} {a3 : Int32} {r : Int32} {S' : MS} (h : f_X12_wished S a1 a2 a3 = some (r, S')) : fI [20] [18, 19] S S' := by
  have hS : fI [20] [18, 19] S S := fI_rf
  refine (?_ : jf (fI [20] [18, 19] S) Prod.snd (f_X12_wished S a1 a2 a3)) _ h
  unfold f_X12_wished
  refine f_bp (fun x1 => ?_)
  refine f_ite ?_ ?_
  · refine f_bpS (fun _ h => fI_tr hS (w_X12_layChain h) (by decide) (by decide)) (fun S2 hS2 => ?_)
    refine f_ite ?_ ?_
    · exact f_some hS2
    · refine f_bp (fun x3 => ?_)
      refine f_chk ?_
      refine f_jm1 hS2 (fun x4 hS2 => ?_) (fun k7 hk8 => ?_)
      · refine f_lt (fun x5 => ?_)
        refine f_bp (fun x6 => ?_)
        refine f_ite ?_ ?_
        · exact f_some hS2
        · exact f_some hS2
      · refine f_ite ?_ ?_
        · exact hk8 (-1) hS2
        · exact hk8 1 hS2
  · exact f_some hS
abbrev rm_X12_would : Room := { frames := 6, cells := 0, slots := 0, locals := 136 }
theorem kY_X12_would : kY yX12_would cX12_would 4 (some .int) 1 := ⟨kw_1_13, kw_7_195, by decide, by decide, by decide +kernel⟩
def L_X12_would_30 (c1 : Int32) (k9 : MS → Int32 → Option (Int32 × MS)) : Nat → MS → Int32 → Int32 → Option (Int32 × MS) := lo3 fun rec7 S6 x4 x5 =>
  (if 22 ≤ x5 then
  k9 S6 x4
 else
  bp (f_X12_of S6 c1 0) (fun x11 =>
  chk 4 1177 (
  bp (f_X12_layChain S6 x11 x5 (S6.2 0 (4 : Int32).toNatClampNeg)) (fun S12 =>
  bp (f_X12_isLinked S12 c1) (fun x13 =>
  jn1 (fun (x14 : Int32) =>
  lt (x4 + x14) fun x15 =>
  lt (x5 + 1) fun x16 =>
  rec7 S12 x15 x16) (fun k17 =>
  (if x13 = true then
  k17 1
 else
  k17 0)))))))
set_option maxRecDepth 100000 in
set_option maxHeartbeats 4000000 in
theorem l_X12_would_30 {X : KX} {g : KG} {q : Nat → Nat} {res : Int32 × MS} (C : kC X g cX12_would "MarkChainsModel" rm_X12_would 4) (hR : ∀ (pc : Nat) (lv : List (Nat × Value)), decode cX12_would pc = .ok (.ireturn, 1) → jW X g (mw g q res.2) 0 0 pc lv [.int res.1]) (c1 : Int32) (k9 : MS → Int32 → Option (Int32 × MS)) (hk10 : ∀ (S19 : MS) (x20 : Int32), jJ X g res (mw g q S19) 0 0 75 [(0, .ref (q 0)), (2, .int x20)] [] (k9 S19 x20)) : ∀ (n : Nat) (S6 : MS) (x4 : Int32) (x5 : Int32), jJ X g res (mw g q S6) 0 0 30 [(0, .ref (q 0)), (1, .int c1), (2, .int x4), (3, .int x5)] [] (L_X12_would_30 c1 k9 n S6 x4 x5) := by
  refine r_lo3 (fun S6 x4 x5 => mw g q S6) (fun S6 x4 x5 => [(0, .ref (q 0)), (1, .int c1), (2, .int x4), (3, .int x5)]) (fun rec7 ih8 S6 x4 x5 => ?_)
  refine r_iload_n (pc := 30) C dX12_would_30 3 rfl ?_
  refine r_bipush (pc := 31) C dX12_would_31 (v := 22) (by decide) ?_
  refine r_icmp_ge 75 (pc := 33) C dX12_would_33 (by decide) ?_ ?_
  · refine r_sub (lv' := [(0, .ref (q 0)), (2, .int x4)]) [0, 2] rfl ?_
    exact hk10 S6 x4
  · refine r_aload_n (pc := 36) C dX12_would_36 0 rfl ?_
    refine r_aload_n (pc := 37) C dX12_would_37 0 rfl ?_
    refine r_iload_n (pc := 38) C dX12_would_38 1 rfl ?_
    refine r_iconst (pc := 39) C dX12_would_39 (v := 0) (by decide) ?_
    refine r_cVpi (As := [.int c1, .int 0]) (st := [.ref (q 0)]) (pc := 40) C (fun _ h => c_X12_of h) kY_X12_of kw_7_27 kw_0_64 kw_7_25 rfl ⟨Nat.le_of_ble_eq_true rfl, Nat.le_of_ble_eq_true rfl⟩ rfl rfl ⟨Nat.zero_le _, Nat.zero_le _⟩ 0 rfl rfl rfl (Nat.le_of_ble_eq_true rfl) dX12_would_40 (fun x11 => ?_)
    refine r_iload_n (pc := 43) C dX12_would_43 3 rfl ?_
    refine r_aload_n (pc := 44) C dX12_would_44 0 rfl ?_
    refine mg_all (pc := 45) C dX12_would_45 ?_
    refine r_iconst (pc := 48) C dX12_would_48 (v := 4) (by decide) ?_
    refine ml_all (pc := 49) C dX12_would_49 ?_
    refine r_cVwv (As := [.int x11, .int x5, .int (S6.2 0 (4 : Int32).toNatClampNeg)]) (st := []) (wf := mw g q) (pc := 50) C (fun _ h => c_X12_layChain h) kY_X12_layChain kw_7_106 kw_0_72 kw_7_104 rfl ⟨Nat.le_of_ble_eq_true rfl, Nat.le_of_ble_eq_true rfl⟩ rfl rfl ⟨Nat.zero_le _, Nat.zero_le _⟩ 0 rfl rfl rfl (Nat.le_of_ble_eq_true rfl) dX12_would_50 (fun S12 => ?_)
    refine r_iload_n (pc := 53) C dX12_would_53 2 rfl ?_
    refine r_aload_n (pc := 54) C dX12_would_54 0 rfl ?_
    refine r_iload_n (pc := 55) C dX12_would_55 1 rfl ?_
    refine r_cVpz (As := [.int c1]) (st := [.int x4]) (pc := 56) C (fun _ h => c_X12_isLinked h) kY_X12_isLinked kw_7_166 kw_0_81 kw_7_164 rfl ⟨Nat.le_of_ble_eq_true rfl, Nat.le_of_ble_eq_true rfl⟩ rfl rfl ⟨Nat.zero_le _, Nat.zero_le _⟩ 0 rfl rfl rfl (Nat.le_of_ble_eq_true rfl) dX12_would_56 (fun x13 => ?_)
    refine r_jn1 67 (fun (x14 : Int32) => mw g q S12) (fun (x14 : Int32) => [(0, .ref (q 0)), (1, .int c1), (3, .int x5)]) (fun (x14 : Int32) => [.int x14, .int x4]) (fun x14 => ?_) (fun k17 hk18 => ?_)
    · refine r_iadd (pc := 67) C dX12_would_67 ?_
      refine r_istoreV_n (pc := 68) C dX12_would_68 (lv' := fun x15 => [(0, .ref (q 0)), (1, .int c1), (2, .int x15), (3, .int x5)]) (by decide) [1, 2, 0, 3] (fun _ => rfl) (fun x15 => ?_)
      refine r_iinc (pc := 69) C dX12_would_69 (v := 1) (lv' := fun x16 => [(0, .ref (q 0)), (1, .int c1), (2, .int x15), (3, .int x16)]) 3 rfl (by decide) (by decide) [1, 2, 3, 0] (fun _ => rfl) (fun x16 => ?_)
      refine r_goto 30 (pc := 72) C dX12_would_72 (by decide) ?_
      exact ih8 S12 x15 x16
    · refine r_ifb_eq 66 (pc := 59) C dX12_would_59 (by decide) ?_ ?_
      · refine r_iconst (pc := 66) C dX12_would_66 (v := 0) (by decide) ?_
        refine r_sub (lv' := [(0, .ref (q 0)), (1, .int c1), (3, .int x5)]) [0, 1, 3] rfl ?_
        exact hk18 0
      · refine r_iconst (pc := 62) C dX12_would_62 (v := 1) (by decide) ?_
        refine r_goto 67 (pc := 63) C dX12_would_63 (by decide) ?_
        refine r_sub (lv' := [(0, .ref (q 0)), (1, .int c1), (3, .int x5)]) [0, 1, 3] rfl ?_
        exact hk18 1
set_option maxRecDepth 100000 in
theorem v_X12_would_30 {S0 : MS} {c1 : Int32} {k9 : MS → Int32 → Option (Int32 × MS)} (hk10 : ∀ (S19 : MS) (x20 : Int32), (fI [20, 21] [18, 19] S0) S19 → jf (fI [20, 21] [18, 19] S0) Prod.snd (k9 S19 x20)) : ∀ (n : Nat) (S6 : MS) (x4 : Int32) (x5 : Int32), (fI [20, 21] [18, 19] S0) S6 → jf (fI [20, 21] [18, 19] S0) Prod.snd (L_X12_would_30 c1 k9 n S6 x4 x5) := by
  refine f_lo3 (I := (fI [20, 21] [18, 19] S0)) (fun S6 x4 x5 => S6) (fun rec7 ih8 S6 x4 x5 hS6 => ?_)
  refine f_ite ?_ ?_
  · exact hk10 S6 x4 hS6
  · refine f_bp (fun x11 => ?_)
    refine f_chk ?_
    refine f_bpS (fun _ h => fI_tr hS6 (w_X12_layChain h) (by decide) (by decide)) (fun S12 hS12 => ?_)
    refine f_bp (fun x13 => ?_)
    refine f_jm1 hS12 (fun x14 hS12 => ?_) (fun k17 hk18 => ?_)
    · refine f_lt (fun x15 => ?_)
      refine f_lt (fun x16 => ?_)
      exact ih8 S12 x15 x16 hS12
    · refine f_ite ?_ ?_
      · exact hk18 1 hS12
      · exact hk18 0 hS12
def f_X12_would (S : MS) (a1 : Int32) : Option (Int32 × MS) :=
  bp (f_X12_isMark S a1) (fun x1 =>
  (if x1 = true then
  bp (f_X12_of S a1 9) (fun x2 =>
  (if x2 = (-1) then
  lt (si S 21 a1) fun S3 =>
  L_X12_would_30 a1 (fun S21 x22 =>
  lt (si S21 21 (-1)) fun S23 =>
  some (x22, S23)) FU S3 0 0
 else
  some ((-1), S)))
 else
  some ((-1), S)))
set_option maxRecDepth 100000 in
set_option maxHeartbeats 4000000 in
theorem c_X12_would {g : KG} {q : Nat → Nat} {S : MS} {a1 : Int32} {r : Int32} {S' : MS} (h : f_X12_would S a1 = some (r, S')) : ∀ l, kM l yX12_would cX12_would 4 (some .int) rm_X12_would g [.ref (q 0), .int a1] (mw g q S) (mw g q S') (some (.int r)) 0 0 := by
  refine k_open_i (own := "MarkChainsModel") (by decide) rfl (Nat.le_of_ble_eq_true rfl) (fun X C hR => ?_)
  refine (?_ : jJ X g ((r, S') : Int32 × MS) (mw g q S) 0 0 0 [(0, .ref (q 0)), (1, .int a1)] [] (f_X12_would S a1)) h
  unfold f_X12_would
  refine r_aload_n (pc := 0) C dX12_would_0 0 rfl ?_
  refine r_iload_n (pc := 1) C dX12_would_1 1 rfl ?_
  refine r_cVpz (As := [.int a1]) (st := []) (pc := 2) C (fun _ h => c_X12_isMark h) kY_X12_isMark kw_7_11 kw_0_60 kw_7_9 rfl ⟨Nat.le_of_ble_eq_true rfl, Nat.le_of_ble_eq_true rfl⟩ rfl rfl ⟨Nat.zero_le _, Nat.zero_le _⟩ 0 rfl rfl rfl (Nat.le_of_ble_eq_true rfl) dX12_would_2 (fun x1 => ?_)
  refine r_ifb_eq 19 (pc := 5) C dX12_would_5 (by decide) ?_ ?_
  · refine r_iconst (pc := 19) C dX12_would_19 (v := (-1)) (by decide) ?_
    exact r_retWI (wf := mw g q) hR (pc := 20) dX12_would_20
  · refine r_aload_n (pc := 8) C dX12_would_8 0 rfl ?_
    refine r_iload_n (pc := 9) C dX12_would_9 1 rfl ?_
    refine r_bipush (pc := 10) C dX12_would_10 (v := 9) (by decide) ?_
    refine r_cVpi (As := [.int a1, .int 9]) (st := []) (pc := 12) C (fun _ h => c_X12_of h) kY_X12_of kw_7_27 kw_0_64 kw_7_25 rfl ⟨Nat.le_of_ble_eq_true rfl, Nat.le_of_ble_eq_true rfl⟩ rfl rfl ⟨Nat.zero_le _, Nat.zero_le _⟩ 0 rfl rfl rfl (Nat.le_of_ble_eq_true rfl) dX12_would_12 (fun x2 => ?_)
    refine r_iconst (pc := 15) C dX12_would_15 (v := (-1)) (by decide) ?_
    refine r_icmp_eq 21 (pc := 16) C dX12_would_16 (by decide) ?_ ?_
    · refine r_iconst (pc := 21) C dX12_would_21 (v := 0) (by decide) ?_
      refine r_istore_n (pc := 22) C dX12_would_22 (lv' := [(0, .ref (q 0)), (1, .int a1), (2, .int 0)]) (by decide) [1, 2, 0] rfl ?_
      refine r_aload_n (pc := 23) C dX12_would_23 0 rfl ?_
      refine r_iload_n (pc := 24) C dX12_would_24 1 rfl ?_
      refine mp_added (pc := 25) C dX12_would_25 (fun S3 => ?_)
      refine r_iconst (pc := 28) C dX12_would_28 (v := 0) (by decide) ?_
      refine r_istore_n (pc := 29) C dX12_would_29 (lv' := [(0, .ref (q 0)), (1, .int a1), (2, .int 0), (3, .int 0)]) (by decide) [1, 2, 3, 0] rfl ?_
      refine l_X12_would_30 C hR a1 _ (fun S21 x22 => ?_) FU S3 0 0
      refine r_aload_n (pc := 75) C dX12_would_75 0 rfl ?_
      refine r_iconst (pc := 76) C dX12_would_76 (v := (-1)) (by decide) ?_
      refine mp_added (pc := 77) C dX12_would_77 (fun S23 => ?_)
      refine r_iload_n (pc := 80) C dX12_would_80 1 rfl ?_
      exact r_retWI (wf := mw g q) hR (pc := 81) dX12_would_81
    · refine r_iconst (pc := 19) C dX12_would_19 (v := (-1)) (by decide) ?_
      exact r_retWI (wf := mw g q) hR (pc := 20) dX12_would_20
set_option maxRecDepth 100000 in
theorem w_X12_would {S : MS} {a1 : Int32} {r : Int32} {S' : MS} (h : f_X12_would S a1 = some (r, S')) : fI [20, 21] [18, 19] S S' := by
  have hS : fI [20, 21] [18, 19] S S := fI_rf
  refine (?_ : jf (fI [20, 21] [18, 19] S) Prod.snd (f_X12_would S a1)) _ h
  unfold f_X12_would
  refine f_bp (fun x1 => ?_)
  refine f_ite ?_ ?_
  · refine f_bp (fun x2 => ?_)
    refine f_ite ?_ ?_
    · refine f_ltS (fI_si hS (by decide)) (fun S3 hS3 => ?_)
      refine v_X12_would_30 (fun S21 x22 hS21 => ?_) FU S3 0 0 hS3
      refine f_ltS (fI_si hS21 (by decide)) (fun S23 hS23 => ?_)
      exact f_some hS23
    · exact f_some hS
  · exact f_some hS
abbrev rm_X12_pointsOf : Room := { frames := 5, cells := 0, slots := 0, locals := 112 }
theorem kY_X12_pointsOf : kY yX12_pointsOf cX12_pointsOf 3 (some .int) 1 := ⟨kw_1_13, kw_7_203, by decide, by decide, by decide +kernel⟩
def f_X12_pointsOf (S : MS) (a1 : Int32) : Option (Int32 × MS) :=
  chk 1045 1177 (
  (if (S.2 0 (1045 : Int32).toNatClampNeg) = 0 then
  bp (f_X12_eventOf S a1 0) (fun x3 =>
  (if x3 = 1 then
  bp (f_X12_of S a1 5) (fun x5 =>
  some (x5, S))
 else
  bp (f_X12_of S a1 5) (fun x4 =>
  some (1000000 - x4, S))))
 else
  chk 1046 1177 (
  bw (f_X12_worked S 1047 (1047 + (S.2 0 (1046 : Int32).toNatClampNeg)) a1) (fun x1 S2 =>
  (if 0 ≤ x1 then
  (if x1 ≤ 1000000 then
  some (x1, S2)
 else
  some (1000000, S2))
 else
  some (0, S2))))))
set_option maxRecDepth 100000 in
set_option maxHeartbeats 4000000 in
theorem c_X12_pointsOf {g : KG} {q : Nat → Nat} {S : MS} {a1 : Int32} {r : Int32} {S' : MS} (h : f_X12_pointsOf S a1 = some (r, S')) : ∀ l, kM l yX12_pointsOf cX12_pointsOf 3 (some .int) rm_X12_pointsOf g [.ref (q 0), .int a1] (mw g q S) (mw g q S') (some (.int r)) 0 0 := by
  refine k_open_i (own := "MarkChainsModel") (by decide) rfl (Nat.le_of_ble_eq_true rfl) (fun X C hR => ?_)
  refine (?_ : jJ X g ((r, S') : Int32 × MS) (mw g q S) 0 0 0 [(0, .ref (q 0)), (1, .int a1)] [] (f_X12_pointsOf S a1)) h
  unfold f_X12_pointsOf
  refine r_aload_n (pc := 0) C dX12_pointsOf_0 0 rfl ?_
  refine mg_all (pc := 1) C dX12_pointsOf_1 ?_
  refine r_sipush (pc := 4) C dX12_pointsOf_4 (v := 1045) (by decide) ?_
  refine ml_all (pc := 7) C dX12_pointsOf_7 ?_
  refine r_if_ne 40 (pc := 8) C dX12_pointsOf_8 (by decide) ?_ ?_
  · refine r_aload_n (pc := 40) C dX12_pointsOf_40 0 rfl ?_
    refine r_sipush (pc := 41) C dX12_pointsOf_41 (v := 1047) (by decide) ?_
    refine r_sipush (pc := 44) C dX12_pointsOf_44 (v := 1047) (by decide) ?_
    refine r_aload_n (pc := 47) C dX12_pointsOf_47 0 rfl ?_
    refine mg_all (pc := 48) C dX12_pointsOf_48 ?_
    refine r_sipush (pc := 51) C dX12_pointsOf_51 (v := 1046) (by decide) ?_
    refine ml_all (pc := 54) C dX12_pointsOf_54 ?_
    refine r_iadd (pc := 55) C dX12_pointsOf_55 ?_
    refine r_iload_n (pc := 56) C dX12_pointsOf_56 1 rfl ?_
    refine r_cVwi (As := [.int 1047, .int (1047 + (S.2 0 (1046 : Int32).toNatClampNeg)), .int a1]) (st := []) (wf := mw g q) (pc := 57) C (fun _ _ h => c_X12_worked h) kY_X12_worked kw_7_19 kw_0_62 kw_7_17 rfl ⟨Nat.le_of_ble_eq_true rfl, Nat.le_of_ble_eq_true rfl⟩ rfl rfl ⟨Nat.zero_le _, Nat.zero_le _⟩ 0 rfl rfl rfl (Nat.le_of_ble_eq_true rfl) dX12_pointsOf_57 (fun x1 S2 => ?_)
    refine r_istore_n (pc := 60) C dX12_pointsOf_60 (lv' := [(0, .ref (q 0)), (1, .int a1), (2, .int x1)]) (by decide) [1, 2, 0] rfl ?_
    refine r_iload_n (pc := 61) C dX12_pointsOf_61 2 rfl ?_
    refine r_if_ge 69 (pc := 62) C dX12_pointsOf_62 (by decide) ?_ ?_
    · refine r_iload_n (pc := 69) C dX12_pointsOf_69 2 rfl ?_
      refine r_ldc (pc := 70) C dX12_pointsOf_70 kw_6_188 ?_
      refine r_icmp_le 80 (pc := 72) C dX12_pointsOf_72 (by decide) ?_ ?_
      · refine r_iload_n (pc := 80) C dX12_pointsOf_80 2 rfl ?_
        exact r_retWI (wf := mw g q) hR (pc := 81) dX12_pointsOf_81
      · refine r_ldc (pc := 75) C dX12_pointsOf_75 kw_6_188 ?_
        refine r_goto 81 (pc := 77) C dX12_pointsOf_77 (by decide) ?_
        exact r_retWI (wf := mw g q) hR (pc := 81) dX12_pointsOf_81
    · refine r_iconst (pc := 65) C dX12_pointsOf_65 (v := 0) (by decide) ?_
      refine r_goto 81 (pc := 66) C dX12_pointsOf_66 (by decide) ?_
      exact r_retWI (wf := mw g q) hR (pc := 81) dX12_pointsOf_81
  · refine r_aload_n (pc := 11) C dX12_pointsOf_11 0 rfl ?_
    refine r_iload_n (pc := 12) C dX12_pointsOf_12 1 rfl ?_
    refine r_iconst (pc := 13) C dX12_pointsOf_13 (v := 0) (by decide) ?_
    refine r_cVpi (As := [.int a1, .int 0]) (st := []) (pc := 14) C (fun _ h => c_X12_eventOf h) kY_X12_eventOf kw_7_35 kw_0_66 kw_7_33 rfl ⟨Nat.le_of_ble_eq_true rfl, Nat.le_of_ble_eq_true rfl⟩ rfl rfl ⟨Nat.zero_le _, Nat.zero_le _⟩ 0 rfl rfl rfl (Nat.le_of_ble_eq_true rfl) dX12_pointsOf_14 (fun x3 => ?_)
    refine r_iconst (pc := 17) C dX12_pointsOf_17 (v := 1) (by decide) ?_
    refine r_icmp_ne 30 (pc := 18) C dX12_pointsOf_18 (by decide) ?_ ?_
    · refine r_ldc (pc := 30) C dX12_pointsOf_30 kw_6_188 ?_
      refine r_aload_n (pc := 32) C dX12_pointsOf_32 0 rfl ?_
      refine r_iload_n (pc := 33) C dX12_pointsOf_33 1 rfl ?_
      refine r_iconst (pc := 34) C dX12_pointsOf_34 (v := 5) (by decide) ?_
      refine r_cVpi (As := [.int a1, .int 5]) (st := [.int 1000000]) (pc := 35) C (fun _ h => c_X12_of h) kY_X12_of kw_7_27 kw_0_64 kw_7_25 rfl ⟨Nat.le_of_ble_eq_true rfl, Nat.le_of_ble_eq_true rfl⟩ rfl rfl ⟨Nat.zero_le _, Nat.zero_le _⟩ 0 rfl rfl rfl (Nat.le_of_ble_eq_true rfl) dX12_pointsOf_35 (fun x4 => ?_)
      refine r_isub (pc := 38) C dX12_pointsOf_38 ?_
      exact r_retWI (wf := mw g q) hR (pc := 39) dX12_pointsOf_39
    · refine r_aload_n (pc := 21) C dX12_pointsOf_21 0 rfl ?_
      refine r_iload_n (pc := 22) C dX12_pointsOf_22 1 rfl ?_
      refine r_iconst (pc := 23) C dX12_pointsOf_23 (v := 5) (by decide) ?_
      refine r_cVpi (As := [.int a1, .int 5]) (st := []) (pc := 24) C (fun _ h => c_X12_of h) kY_X12_of kw_7_27 kw_0_64 kw_7_25 rfl ⟨Nat.le_of_ble_eq_true rfl, Nat.le_of_ble_eq_true rfl⟩ rfl rfl ⟨Nat.zero_le _, Nat.zero_le _⟩ 0 rfl rfl rfl (Nat.le_of_ble_eq_true rfl) dX12_pointsOf_24 (fun x5 => ?_)
      refine r_goto 39 (pc := 27) C dX12_pointsOf_27 (by decide) ?_
      exact r_retWI (wf := mw g q) hR (pc := 39) dX12_pointsOf_39
set_option maxRecDepth 100000 in
theorem w_X12_pointsOf {S : MS} {a1 : Int32} {r : Int32} {S' : MS} (h : f_X12_pointsOf S a1 = some (r, S')) : fI [] [17] S S' := by
  have hS : fI [] [17] S S := fI_rf
  refine (?_ : jf (fI [] [17] S) Prod.snd (f_X12_pointsOf S a1)) _ h
  unfold f_X12_pointsOf
  refine f_chk ?_
  refine f_ite ?_ ?_
  · refine f_bp (fun x3 => ?_)
    refine f_ite ?_ ?_
    · refine f_bp (fun x5 => ?_)
      exact f_some hS
    · refine f_bp (fun x4 => ?_)
      exact f_some hS
  · refine f_chk ?_
    refine f_bwS (fun _ _ h => fI_tr hS (w_X12_worked h) (by decide) (by decide)) (fun x1 S2 hS2 => ?_)
    refine f_ite ?_ ?_
    · refine f_ite ?_ ?_
      · exact f_some hS2
      · exact f_some hS2
    · exact f_some hS2
abbrev rm_X12_points : Room := { frames := 6, cells := 0, slots := 0, locals := 134 }
theorem kY_X12_points : kY yX12_points cX12_points 2 (some .int) 1 := ⟨kw_1_13, kw_7_199, by decide, by decide, by decide +kernel⟩
def f_X12_points (S : MS) (a1 : Int32) : Option (Int32 × MS) :=
  bp (f_X12_isMark S a1) (fun x1 =>
  (if x1 = true then
  bw (f_X12_pointsOf S a1) (fun x2 S3 =>
  some (x2, S3))
 else
  some ((-1), S)))
set_option maxRecDepth 100000 in
set_option maxHeartbeats 4000000 in
theorem c_X12_points {g : KG} {q : Nat → Nat} {S : MS} {a1 : Int32} {r : Int32} {S' : MS} (h : f_X12_points S a1 = some (r, S')) : ∀ l, kM l yX12_points cX12_points 2 (some .int) rm_X12_points g [.ref (q 0), .int a1] (mw g q S) (mw g q S') (some (.int r)) 0 0 := by
  refine k_open_i (own := "MarkChainsModel") (by decide) rfl (Nat.le_of_ble_eq_true rfl) (fun X C hR => ?_)
  refine (?_ : jJ X g ((r, S') : Int32 × MS) (mw g q S) 0 0 0 [(0, .ref (q 0)), (1, .int a1)] [] (f_X12_points S a1)) h
  unfold f_X12_points
  refine r_aload_n (pc := 0) C dX12_points_0 0 rfl ?_
  refine r_iload_n (pc := 1) C dX12_points_1 1 rfl ?_
  refine r_cVpz (As := [.int a1]) (st := []) (pc := 2) C (fun _ h => c_X12_isMark h) kY_X12_isMark kw_7_11 kw_0_60 kw_7_9 rfl ⟨Nat.le_of_ble_eq_true rfl, Nat.le_of_ble_eq_true rfl⟩ rfl rfl ⟨Nat.zero_le _, Nat.zero_le _⟩ 0 rfl rfl rfl (Nat.le_of_ble_eq_true rfl) dX12_points_2 (fun x1 => ?_)
  refine r_ifb_eq 16 (pc := 5) C dX12_points_5 (by decide) ?_ ?_
  · refine r_iconst (pc := 16) C dX12_points_16 (v := (-1)) (by decide) ?_
    exact r_retWI (wf := mw g q) hR (pc := 17) dX12_points_17
  · refine r_aload_n (pc := 8) C dX12_points_8 0 rfl ?_
    refine r_iload_n (pc := 9) C dX12_points_9 1 rfl ?_
    refine r_cVwi (As := [.int a1]) (st := []) (wf := mw g q) (pc := 10) C (fun _ _ h => c_X12_pointsOf h) kY_X12_pointsOf kw_7_202 kw_0_85 kw_7_200 rfl ⟨Nat.le_of_ble_eq_true rfl, Nat.le_of_ble_eq_true rfl⟩ rfl rfl ⟨Nat.zero_le _, Nat.zero_le _⟩ 0 rfl rfl rfl (Nat.le_of_ble_eq_true rfl) dX12_points_10 (fun x2 S3 => ?_)
    refine r_goto 17 (pc := 13) C dX12_points_13 (by decide) ?_
    exact r_retWI (wf := mw g q) hR (pc := 17) dX12_points_17
set_option maxRecDepth 100000 in
theorem w_X12_points {S : MS} {a1 : Int32} {r : Int32} {S' : MS} (h : f_X12_points S a1 = some (r, S')) : fI [] [17] S S' := by
  have hS : fI [] [17] S S := fI_rf
  refine (?_ : jf (fI [] [17] S) Prod.snd (f_X12_points S a1)) _ h
  unfold f_X12_points
  refine f_bp (fun x1 => ?_)
  refine f_ite ?_ ?_
  · refine f_bwS (fun _ _ h => fI_tr hS (w_X12_pointsOf h) (by decide) (by decide)) (fun x2 S3 hS3 => ?_)
    exact f_some hS3
  · exact f_some hS
abbrev rm_X12_bestPoints : Room := { frames := 6, cells := 0, slots := 0, locals := 134 }
theorem kY_X12_bestPoints : kY yX12_bestPoints cX12_bestPoints 8 (some .int) 4 := ⟨kw_1_13, kw_7_215, by decide, by decide, by decide +kernel⟩
def L_X12_bestPoints_6 (c1 : Int32) (c2 : Int32) (c3 : Int32) (c4 : Int32) (k6 : MS → Int32 → Option (Int32 × MS)) : Nat → MS → Int32 → Int32 → Option (Int32 × MS) := lo3 fun rec4 S3 x1 x2 =>
  chk 3 1177 (
  (if (S3.2 0 (3 : Int32).toNatClampNeg) ≤ x2 then
  k6 S3 x1
 else
  bp (f_X12_of S3 x2 0) (fun x8 =>
  (if x8 = c1 then
  bp (f_X12_standsOn S3 x2 c4) (fun x10 =>
  (if x10 = true then
  jn0 (jn0 (bw (f_X12_pointsOf S3 x2) (fun x12 S13 =>
  jn1 (fun (x14 : Int32) =>
  lt (x2 + 1) fun x15 =>
  rec4 S13 x14 x15) (fun k16 =>
  (if x12 ≤ x1 then
  k16 x1
 else
  k16 x12)))) (fun k18 =>
  (if c3 = (-1) then
  k18
 else
  bp (f_X12_isWithin S3 x2 (c3 + 1)) (fun x20 =>
  (if x20 = true then
  k18
 else
  lt (x2 + 1) fun x21 =>
  rec4 S3 x1 x21))))) (fun k22 =>
  (if c2 = (-1) then
  k22
 else
  bp (f_X12_of S3 x2 1) (fun x24 =>
  (if x24 = c2 then
  k22
 else
  lt (x2 + 1) fun x25 =>
  rec4 S3 x1 x25))))
 else
  lt (x2 + 1) fun x11 =>
  rec4 S3 x1 x11))
 else
  lt (x2 + 1) fun x9 =>
  rec4 S3 x1 x9))))
set_option maxRecDepth 100000 in
set_option maxHeartbeats 4000000 in
theorem l_X12_bestPoints_6 {X : KX} {g : KG} {q : Nat → Nat} {res : Int32 × MS} (C : kC X g cX12_bestPoints "MarkChainsModel" rm_X12_bestPoints 8) (hR : ∀ (pc : Nat) (lv : List (Nat × Value)), decode cX12_bestPoints pc = .ok (.ireturn, 1) → jW X g (mw g q res.2) 0 0 pc lv [.int res.1]) (c1 : Int32) (c2 : Int32) (c3 : Int32) (c4 : Int32) (k6 : MS → Int32 → Option (Int32 × MS)) (hk7 : ∀ (S26 : MS) (x27 : Int32), jJ X g res (mw g q S26) 0 0 105 [(5, .int x27)] [] (k6 S26 x27)) : ∀ (n : Nat) (S3 : MS) (x1 : Int32) (x2 : Int32), jJ X g res (mw g q S3) 0 0 6 [(0, .ref (q 0)), (1, .int c1), (2, .int c2), (3, .int c3), (4, .int c4), (5, .int x1), (6, .int x2)] [] (L_X12_bestPoints_6 c1 c2 c3 c4 k6 n S3 x1 x2) := by
  refine r_lo3 (fun S3 x1 x2 => mw g q S3) (fun S3 x1 x2 => [(0, .ref (q 0)), (1, .int c1), (2, .int c2), (3, .int c3), (4, .int c4), (5, .int x1), (6, .int x2)]) (fun rec4 ih5 S3 x1 x2 => ?_)
  refine r_iload (pc := 6) C dX12_bestPoints_6 6 rfl ?_
  refine r_aload_n (pc := 8) C dX12_bestPoints_8 0 rfl ?_
  refine mg_all (pc := 9) C dX12_bestPoints_9 ?_
  refine r_iconst (pc := 12) C dX12_bestPoints_12 (v := 3) (by decide) ?_
  refine ml_all (pc := 13) C dX12_bestPoints_13 ?_
  refine r_icmp_ge 105 (pc := 14) C dX12_bestPoints_14 (by decide) ?_ ?_
  · refine r_sub (lv' := [(5, .int x1)]) [5] rfl ?_
    exact hk7 S3 x1
  · refine r_aload_n (pc := 17) C dX12_bestPoints_17 0 rfl ?_
    refine r_iload (pc := 18) C dX12_bestPoints_18 6 rfl ?_
    refine r_iconst (pc := 20) C dX12_bestPoints_20 (v := 0) (by decide) ?_
    refine r_cVpi (As := [.int x2, .int 0]) (st := []) (pc := 21) C (fun _ h => c_X12_of h) kY_X12_of kw_7_27 kw_0_64 kw_7_25 rfl ⟨Nat.le_of_ble_eq_true rfl, Nat.le_of_ble_eq_true rfl⟩ rfl rfl ⟨Nat.zero_le _, Nat.zero_le _⟩ 0 rfl rfl rfl (Nat.le_of_ble_eq_true rfl) dX12_bestPoints_21 (fun x8 => ?_)
    refine r_iload_n (pc := 24) C dX12_bestPoints_24 1 rfl ?_
    refine r_icmp_ne 99 (pc := 25) C dX12_bestPoints_25 (by decide) ?_ ?_
    · refine r_iinc (pc := 99) C dX12_bestPoints_99 (v := 1) (lv' := fun x9 => [(0, .ref (q 0)), (1, .int c1), (2, .int c2), (3, .int c3), (4, .int c4), (5, .int x1), (6, .int x9)]) 6 rfl (by decide) (by decide) [1, 2, 3, 4, 5, 6, 0] (fun _ => rfl) (fun x9 => ?_)
      refine r_goto 6 (pc := 102) C dX12_bestPoints_102 (by decide) ?_
      exact ih5 S3 x1 x9
    · refine r_aload_n (pc := 28) C dX12_bestPoints_28 0 rfl ?_
      refine r_iload (pc := 29) C dX12_bestPoints_29 6 rfl ?_
      refine r_iload (pc := 31) C dX12_bestPoints_31 4 rfl ?_
      refine r_cVpz (As := [.int x2, .int c4]) (st := []) (pc := 33) C (fun _ h => c_X12_standsOn h) kY_X12_standsOn kw_7_59 kw_0_68 kw_7_57 rfl ⟨Nat.le_of_ble_eq_true rfl, Nat.le_of_ble_eq_true rfl⟩ rfl rfl ⟨Nat.zero_le _, Nat.zero_le _⟩ 0 rfl rfl rfl (Nat.le_of_ble_eq_true rfl) dX12_bestPoints_33 (fun x10 => ?_)
      refine r_ifb_eq 99 (pc := 36) C dX12_bestPoints_36 (by decide) ?_ ?_
      · refine r_iinc (pc := 99) C dX12_bestPoints_99 (v := 1) (lv' := fun x11 => [(0, .ref (q 0)), (1, .int c1), (2, .int c2), (3, .int c3), (4, .int c4), (5, .int x1), (6, .int x11)]) 6 rfl (by decide) (by decide) [1, 2, 3, 4, 5, 6, 0] (fun _ => rfl) (fun x11 => ?_)
        refine r_goto 6 (pc := 102) C dX12_bestPoints_102 (by decide) ?_
        exact ih5 S3 x1 x11
      · refine r_iload_n (pc := 39) C dX12_bestPoints_39 2 rfl ?_
        refine r_iconst (pc := 40) C dX12_bestPoints_40 (v := (-1)) (by decide) ?_
        refine r_jn0 55 (mw g q S3) ([(0, .ref (q 0)), (1, .int c1), (2, .int c2), (3, .int c3), (4, .int c4), (5, .int x1), (6, .int x2)]) ([]) ?_ (fun k22 hk23 => ?_)
        · refine r_iload_n (pc := 55) C dX12_bestPoints_55 3 rfl ?_
          refine r_iconst (pc := 56) C dX12_bestPoints_56 (v := (-1)) (by decide) ?_
          refine r_jn0 75 (mw g q S3) ([(0, .ref (q 0)), (1, .int c1), (2, .int c2), (3, .int c3), (4, .int c4), (5, .int x1), (6, .int x2)]) ([]) ?_ (fun k18 hk19 => ?_)
          · refine r_aload_n (pc := 75) C dX12_bestPoints_75 0 rfl ?_
            refine r_iload (pc := 76) C dX12_bestPoints_76 6 rfl ?_
            refine r_cVwi (As := [.int x2]) (st := []) (wf := mw g q) (pc := 78) C (fun _ _ h => c_X12_pointsOf h) kY_X12_pointsOf kw_7_202 kw_0_85 kw_7_200 rfl ⟨Nat.le_of_ble_eq_true rfl, Nat.le_of_ble_eq_true rfl⟩ rfl rfl ⟨Nat.zero_le _, Nat.zero_le _⟩ 0 rfl rfl rfl (Nat.le_of_ble_eq_true rfl) dX12_bestPoints_78 (fun x12 S13 => ?_)
            refine r_istore (pc := 81) C dX12_bestPoints_81 (lv' := [(0, .ref (q 0)), (1, .int c1), (2, .int c2), (3, .int c3), (4, .int c4), (5, .int x1), (6, .int x2), (7, .int x12)]) (by decide) [1, 2, 3, 4, 5, 6, 7, 0] rfl ?_
            refine r_iload (pc := 83) C dX12_bestPoints_83 7 rfl ?_
            refine r_iload (pc := 85) C dX12_bestPoints_85 5 rfl ?_
            refine r_jn1 97 (fun (x14 : Int32) => mw g q S13) (fun (x14 : Int32) => [(0, .ref (q 0)), (1, .int c1), (2, .int c2), (3, .int c3), (4, .int c4), (6, .int x2)]) (fun (x14 : Int32) => [.int x14]) (fun x14 => ?_) (fun k16 hk17 => ?_)
            · refine r_istore (pc := 97) C dX12_bestPoints_97 (lv' := [(0, .ref (q 0)), (1, .int c1), (2, .int c2), (3, .int c3), (4, .int c4), (5, .int x14), (6, .int x2)]) (by decide) [1, 2, 3, 4, 5, 0, 6] rfl ?_
              refine r_iinc (pc := 99) C dX12_bestPoints_99 (v := 1) (lv' := fun x15 => [(0, .ref (q 0)), (1, .int c1), (2, .int c2), (3, .int c3), (4, .int c4), (5, .int x14), (6, .int x15)]) 6 rfl (by decide) (by decide) [1, 2, 3, 4, 5, 6, 0] (fun _ => rfl) (fun x15 => ?_)
              refine r_goto 6 (pc := 102) C dX12_bestPoints_102 (by decide) ?_
              exact ih5 S13 x14 x15
            · refine r_icmp_le 95 (pc := 87) C dX12_bestPoints_87 (by decide) ?_ ?_
              · refine r_iload (pc := 95) C dX12_bestPoints_95 5 rfl ?_
                refine r_sub (lv' := [(0, .ref (q 0)), (1, .int c1), (2, .int c2), (3, .int c3), (4, .int c4), (6, .int x2)]) [0, 1, 2, 3, 4, 6] rfl ?_
                exact hk17 x1
              · refine r_iload (pc := 90) C dX12_bestPoints_90 7 rfl ?_
                refine r_goto 97 (pc := 92) C dX12_bestPoints_92 (by decide) ?_
                refine r_sub (lv' := [(0, .ref (q 0)), (1, .int c1), (2, .int c2), (3, .int c3), (4, .int c4), (6, .int x2)]) [0, 1, 2, 3, 4, 6] rfl ?_
                exact hk17 x12
          · refine r_icmp_eq 75 (pc := 57) C dX12_bestPoints_57 (by decide) ?_ ?_
            · exact hk19
            · refine r_aload_n (pc := 60) C dX12_bestPoints_60 0 rfl ?_
              refine r_iload (pc := 61) C dX12_bestPoints_61 6 rfl ?_
              refine r_iload_n (pc := 63) C dX12_bestPoints_63 3 rfl ?_
              refine r_iconst (pc := 64) C dX12_bestPoints_64 (v := 1) (by decide) ?_
              refine r_iadd (pc := 65) C dX12_bestPoints_65 ?_
              refine r_cVpz (As := [.int x2, .int (c3 + 1)]) (st := []) (pc := 66) C (fun _ h => c_X12_isWithin h) kY_X12_isWithin kw_7_94 kw_0_70 kw_7_92 rfl ⟨Nat.le_of_ble_eq_true rfl, Nat.le_of_ble_eq_true rfl⟩ rfl rfl ⟨Nat.zero_le _, Nat.zero_le _⟩ 0 rfl rfl rfl (Nat.le_of_ble_eq_true rfl) dX12_bestPoints_66 (fun x20 => ?_)
              refine r_ifb_ne 75 (pc := 69) C dX12_bestPoints_69 (by decide) ?_ ?_
              · exact hk19
              · refine r_goto 99 (pc := 72) C dX12_bestPoints_72 (by decide) ?_
                refine r_iinc (pc := 99) C dX12_bestPoints_99 (v := 1) (lv' := fun x21 => [(0, .ref (q 0)), (1, .int c1), (2, .int c2), (3, .int c3), (4, .int c4), (5, .int x1), (6, .int x21)]) 6 rfl (by decide) (by decide) [1, 2, 3, 4, 5, 6, 0] (fun _ => rfl) (fun x21 => ?_)
                refine r_goto 6 (pc := 102) C dX12_bestPoints_102 (by decide) ?_
                exact ih5 S3 x1 x21
        · refine r_icmp_eq 55 (pc := 41) C dX12_bestPoints_41 (by decide) ?_ ?_
          · exact hk23
          · refine r_aload_n (pc := 44) C dX12_bestPoints_44 0 rfl ?_
            refine r_iload (pc := 45) C dX12_bestPoints_45 6 rfl ?_
            refine r_iconst (pc := 47) C dX12_bestPoints_47 (v := 1) (by decide) ?_
            refine r_cVpi (As := [.int x2, .int 1]) (st := []) (pc := 48) C (fun _ h => c_X12_of h) kY_X12_of kw_7_27 kw_0_64 kw_7_25 rfl ⟨Nat.le_of_ble_eq_true rfl, Nat.le_of_ble_eq_true rfl⟩ rfl rfl ⟨Nat.zero_le _, Nat.zero_le _⟩ 0 rfl rfl rfl (Nat.le_of_ble_eq_true rfl) dX12_bestPoints_48 (fun x24 => ?_)
            refine r_iload_n (pc := 51) C dX12_bestPoints_51 2 rfl ?_
            refine r_icmp_ne 99 (pc := 52) C dX12_bestPoints_52 (by decide) ?_ ?_
            · refine r_iinc (pc := 99) C dX12_bestPoints_99 (v := 1) (lv' := fun x25 => [(0, .ref (q 0)), (1, .int c1), (2, .int c2), (3, .int c3), (4, .int c4), (5, .int x1), (6, .int x25)]) 6 rfl (by decide) (by decide) [1, 2, 3, 4, 5, 6, 0] (fun _ => rfl) (fun x25 => ?_)
              refine r_goto 6 (pc := 102) C dX12_bestPoints_102 (by decide) ?_
              exact ih5 S3 x1 x25
            · exact hk23
set_option maxRecDepth 100000 in
theorem v_X12_bestPoints_6 {S0 : MS} {c1 : Int32} {c2 : Int32} {c3 : Int32} {c4 : Int32} {k6 : MS → Int32 → Option (Int32 × MS)} (hk7 : ∀ (S26 : MS) (x27 : Int32), (fI [] [17] S0) S26 → jf (fI [] [17] S0) Prod.snd (k6 S26 x27)) : ∀ (n : Nat) (S3 : MS) (x1 : Int32) (x2 : Int32), (fI [] [17] S0) S3 → jf (fI [] [17] S0) Prod.snd (L_X12_bestPoints_6 c1 c2 c3 c4 k6 n S3 x1 x2) := by
  refine f_lo3 (I := (fI [] [17] S0)) (fun S3 x1 x2 => S3) (fun rec4 ih5 S3 x1 x2 hS3 => ?_)
  refine f_chk ?_
  refine f_ite ?_ ?_
  · exact hk7 S3 x1 hS3
  · refine f_bp (fun x8 => ?_)
    refine f_ite ?_ ?_
    · refine f_bp (fun x10 => ?_)
      refine f_ite ?_ ?_
      · refine f_jm0 hS3 (fun  hS3 => ?_) (fun k22 hk23 => ?_)
        · refine f_jm0 hS3 (fun  hS3 => ?_) (fun k18 hk19 => ?_)
          · refine f_bwS (fun _ _ h => fI_tr hS3 (w_X12_pointsOf h) (by decide) (by decide)) (fun x12 S13 hS13 => ?_)
            refine f_jm1 hS13 (fun x14 hS13 => ?_) (fun k16 hk17 => ?_)
            · refine f_lt (fun x15 => ?_)
              exact ih5 S13 x14 x15 hS13
            · refine f_ite ?_ ?_
              · exact hk17 x1 hS13
              · exact hk17 x12 hS13
          · refine f_ite ?_ ?_
            · exact hk19 hS3
            · refine f_bp (fun x20 => ?_)
              refine f_ite ?_ ?_
              · exact hk19 hS3
              · refine f_lt (fun x21 => ?_)
                exact ih5 S3 x1 x21 hS3
        · refine f_ite ?_ ?_
          · exact hk23 hS3
          · refine f_bp (fun x24 => ?_)
            refine f_ite ?_ ?_
            · exact hk23 hS3
            · refine f_lt (fun x25 => ?_)
              exact ih5 S3 x1 x25 hS3
      · refine f_lt (fun x11 => ?_)
        exact ih5 S3 x1 x11 hS3
    · refine f_lt (fun x9 => ?_)
      exact ih5 S3 x1 x9 hS3
def f_X12_bestPoints (S : MS) (a1 : Int32) (a2 : Int32) (a3 : Int32) (a4 : Int32) : Option (Int32 × MS) :=
  L_X12_bestPoints_6 a1 a2 a3 a4 (fun S28 x29 =>
  some (x29, S28)) FU S 0 0
set_option maxRecDepth 100000 in
set_option maxHeartbeats 4000000 in
theorem c_X12_bestPoints {g : KG} {q : Nat → Nat} {S : MS} {a1 : Int32} {a2 : Int32} {a3 : Int32} {a4 : Int32} {r : Int32} {S' : MS} (h : f_X12_bestPoints S a1 a2 a3 a4 = some (r, S')) : ∀ l, kM l yX12_bestPoints cX12_bestPoints 8 (some .int) rm_X12_bestPoints g [.ref (q 0), .int a1, .int a2, .int a3, .int a4] (mw g q S) (mw g q S') (some (.int r)) 0 0 := by
  refine k_open_i (own := "MarkChainsModel") (by decide) rfl (Nat.le_of_ble_eq_true rfl) (fun X C hR => ?_)
  refine (?_ : jJ X g ((r, S') : Int32 × MS) (mw g q S) 0 0 0 [(0, .ref (q 0)), (1, .int a1), (2, .int a2), (3, .int a3), (4, .int a4)] [] (f_X12_bestPoints S a1 a2 a3 a4)) h
  unfold f_X12_bestPoints
  refine r_iconst (pc := 0) C dX12_bestPoints_0 (v := 0) (by decide) ?_
  refine r_istore (pc := 1) C dX12_bestPoints_1 (lv' := [(0, .ref (q 0)), (1, .int a1), (2, .int a2), (3, .int a3), (4, .int a4), (5, .int 0)]) (by decide) [1, 2, 3, 4, 5, 0] rfl ?_
  refine r_iconst (pc := 3) C dX12_bestPoints_3 (v := 0) (by decide) ?_
  refine r_istore (pc := 4) C dX12_bestPoints_4 (lv' := [(0, .ref (q 0)), (1, .int a1), (2, .int a2), (3, .int a3), (4, .int a4), (5, .int 0), (6, .int 0)]) (by decide) [1, 2, 3, 4, 5, 6, 0] rfl ?_
  refine l_X12_bestPoints_6 C hR a1 a2 a3 a4 _ (fun S28 x29 => ?_) FU S 0 0
  refine r_iload (pc := 105) C dX12_bestPoints_105 0 rfl ?_
  exact r_retWI (wf := mw g q) hR (pc := 107) dX12_bestPoints_107
set_option maxRecDepth 100000 in
theorem w_X12_bestPoints {S : MS} {a1 : Int32} {a2 : Int32} {a3 : Int32} {a4 : Int32} {r : Int32} {S' : MS} (h : f_X12_bestPoints S a1 a2 a3 a4 = some (r, S')) : fI [] [17] S S' := by
  have hS : fI [] [17] S S := fI_rf
  refine (?_ : jf (fI [] [17] S) Prod.snd (f_X12_bestPoints S a1 a2 a3 a4)) _ h
  unfold f_X12_bestPoints
  refine v_X12_bestPoints_6 (fun S28 x29 hS28 => ?_) FU S 0 0 hS
  exact f_some hS28
abbrev rm_X12_sumPoints : Room := { frames := 7, cells := 0, slots := 0, locals := 161 }
theorem kY_X12_sumPoints : kY yX12_sumPoints cX12_sumPoints 6 (some .int) 3 := ⟨kw_1_13, kw_7_211, by decide, by decide, by decide +kernel⟩
def L_X12_sumPoints_6 (c1 : Int32) (c2 : Int32) (c3 : Int32) (k6 : MS → Int32 → Option (Int32 × MS)) : Nat → MS → Int32 → Int32 → Option (Int32 × MS) := lo3 fun rec4 S3 x1 x2 =>
  chk 0 1177 (
  (if (S3.2 0 (0 : Int32).toNatClampNeg) ≤ x2 then
  k6 S3 x1
 else
  bw (f_X12_bestPoints S3 x2 c1 c2 c3) (fun x8 S9 =>
  lt (x1 + x8) fun x10 =>
  lt (x2 + 1) fun x11 =>
  rec4 S9 x10 x11)))
set_option maxRecDepth 100000 in
set_option maxHeartbeats 4000000 in
theorem l_X12_sumPoints_6 {X : KX} {g : KG} {q : Nat → Nat} {res : Int32 × MS} (C : kC X g cX12_sumPoints "MarkChainsModel" rm_X12_sumPoints 6) (hR : ∀ (pc : Nat) (lv : List (Nat × Value)), decode cX12_sumPoints pc = .ok (.ireturn, 1) → jW X g (mw g q res.2) 0 0 pc lv [.int res.1]) (c1 : Int32) (c2 : Int32) (c3 : Int32) (k6 : MS → Int32 → Option (Int32 × MS)) (hk7 : ∀ (S12 : MS) (x13 : Int32), jJ X g res (mw g q S12) 0 0 37 [(4, .int x13)] [] (k6 S12 x13)) : ∀ (n : Nat) (S3 : MS) (x1 : Int32) (x2 : Int32), jJ X g res (mw g q S3) 0 0 6 [(0, .ref (q 0)), (1, .int c1), (2, .int c2), (3, .int c3), (4, .int x1), (5, .int x2)] [] (L_X12_sumPoints_6 c1 c2 c3 k6 n S3 x1 x2) := by
  refine r_lo3 (fun S3 x1 x2 => mw g q S3) (fun S3 x1 x2 => [(0, .ref (q 0)), (1, .int c1), (2, .int c2), (3, .int c3), (4, .int x1), (5, .int x2)]) (fun rec4 ih5 S3 x1 x2 => ?_)
  refine r_iload (pc := 6) C dX12_sumPoints_6 5 rfl ?_
  refine r_aload_n (pc := 8) C dX12_sumPoints_8 0 rfl ?_
  refine mg_all (pc := 9) C dX12_sumPoints_9 ?_
  refine r_iconst (pc := 12) C dX12_sumPoints_12 (v := 0) (by decide) ?_
  refine ml_all (pc := 13) C dX12_sumPoints_13 ?_
  refine r_icmp_ge 37 (pc := 14) C dX12_sumPoints_14 (by decide) ?_ ?_
  · refine r_sub (lv' := [(4, .int x1)]) [4] rfl ?_
    exact hk7 S3 x1
  · refine r_iload (pc := 17) C dX12_sumPoints_17 4 rfl ?_
    refine r_aload_n (pc := 19) C dX12_sumPoints_19 0 rfl ?_
    refine r_iload (pc := 20) C dX12_sumPoints_20 5 rfl ?_
    refine r_iload_n (pc := 22) C dX12_sumPoints_22 1 rfl ?_
    refine r_iload_n (pc := 23) C dX12_sumPoints_23 2 rfl ?_
    refine r_iload_n (pc := 24) C dX12_sumPoints_24 3 rfl ?_
    refine r_cVwi (As := [.int x2, .int c1, .int c2, .int c3]) (st := [.int x1]) (wf := mw g q) (pc := 25) C (fun _ _ h => c_X12_bestPoints h) kY_X12_bestPoints kw_7_214 kw_0_87 kw_7_212 rfl ⟨Nat.le_of_ble_eq_true rfl, Nat.le_of_ble_eq_true rfl⟩ rfl rfl ⟨Nat.zero_le _, Nat.zero_le _⟩ 0 rfl rfl rfl (Nat.le_of_ble_eq_true rfl) dX12_sumPoints_25 (fun x8 S9 => ?_)
    refine r_iadd (pc := 28) C dX12_sumPoints_28 ?_
    refine r_istoreV (pc := 29) C dX12_sumPoints_29 (lv' := fun x10 => [(0, .ref (q 0)), (1, .int c1), (2, .int c2), (3, .int c3), (4, .int x10), (5, .int x2)]) (by decide) [1, 2, 3, 4, 0, 5] (fun _ => rfl) (fun x10 => ?_)
    refine r_iinc (pc := 31) C dX12_sumPoints_31 (v := 1) (lv' := fun x11 => [(0, .ref (q 0)), (1, .int c1), (2, .int c2), (3, .int c3), (4, .int x10), (5, .int x11)]) 5 rfl (by decide) (by decide) [1, 2, 3, 4, 5, 0] (fun _ => rfl) (fun x11 => ?_)
    refine r_goto 6 (pc := 34) C dX12_sumPoints_34 (by decide) ?_
    exact ih5 S9 x10 x11
set_option maxRecDepth 100000 in
theorem v_X12_sumPoints_6 {S0 : MS} {c1 : Int32} {c2 : Int32} {c3 : Int32} {k6 : MS → Int32 → Option (Int32 × MS)} (hk7 : ∀ (S12 : MS) (x13 : Int32), (fI [] [17] S0) S12 → jf (fI [] [17] S0) Prod.snd (k6 S12 x13)) : ∀ (n : Nat) (S3 : MS) (x1 : Int32) (x2 : Int32), (fI [] [17] S0) S3 → jf (fI [] [17] S0) Prod.snd (L_X12_sumPoints_6 c1 c2 c3 k6 n S3 x1 x2) := by
  refine f_lo3 (I := (fI [] [17] S0)) (fun S3 x1 x2 => S3) (fun rec4 ih5 S3 x1 x2 hS3 => ?_)
  refine f_chk ?_
  refine f_ite ?_ ?_
  · exact hk7 S3 x1 hS3
  · refine f_bwS (fun _ _ h => fI_tr hS3 (w_X12_bestPoints h) (by decide) (by decide)) (fun x8 S9 hS9 => ?_)
    refine f_lt (fun x10 => ?_)
    refine f_lt (fun x11 => ?_)
    exact ih5 S9 x10 x11 hS9
def f_X12_sumPoints (S : MS) (a1 : Int32) (a2 : Int32) (a3 : Int32) : Option (Int32 × MS) :=
  L_X12_sumPoints_6 a1 a2 a3 (fun S14 x15 =>
  some (x15, S14)) FU S 0 0
set_option maxRecDepth 100000 in
set_option maxHeartbeats 4000000 in
theorem c_X12_sumPoints {g : KG} {q : Nat → Nat} {S : MS} {a1 : Int32} {a2 : Int32} {a3 : Int32} {r : Int32} {S' : MS} (h : f_X12_sumPoints S a1 a2 a3 = some (r, S')) : ∀ l, kM l yX12_sumPoints cX12_sumPoints 6 (some .int) rm_X12_sumPoints g [.ref (q 0), .int a1, .int a2, .int a3] (mw g q S) (mw g q S') (some (.int r)) 0 0 := by
  refine k_open_i (own := "MarkChainsModel") (by decide) rfl (Nat.le_of_ble_eq_true rfl) (fun X C hR => ?_)
  refine (?_ : jJ X g ((r, S') : Int32 × MS) (mw g q S) 0 0 0 [(0, .ref (q 0)), (1, .int a1), (2, .int a2), (3, .int a3)] [] (f_X12_sumPoints S a1 a2 a3)) h
  unfold f_X12_sumPoints
  refine r_iconst (pc := 0) C dX12_sumPoints_0 (v := 0) (by decide) ?_
  refine r_istore (pc := 1) C dX12_sumPoints_1 (lv' := [(0, .ref (q 0)), (1, .int a1), (2, .int a2), (3, .int a3), (4, .int 0)]) (by decide) [1, 2, 3, 4, 0] rfl ?_
  refine r_iconst (pc := 3) C dX12_sumPoints_3 (v := 0) (by decide) ?_
  refine r_istore (pc := 4) C dX12_sumPoints_4 (lv' := [(0, .ref (q 0)), (1, .int a1), (2, .int a2), (3, .int a3), (4, .int 0), (5, .int 0)]) (by decide) [1, 2, 3, 4, 5, 0] rfl ?_
  refine l_X12_sumPoints_6 C hR a1 a2 a3 _ (fun S14 x15 => ?_) FU S 0 0
  refine r_iload (pc := 37) C dX12_sumPoints_37 0 rfl ?_
  exact r_retWI (wf := mw g q) hR (pc := 39) dX12_sumPoints_39
set_option maxRecDepth 100000 in
theorem w_X12_sumPoints {S : MS} {a1 : Int32} {a2 : Int32} {a3 : Int32} {r : Int32} {S' : MS} (h : f_X12_sumPoints S a1 a2 a3 = some (r, S')) : fI [] [17] S S' := by
  have hS : fI [] [17] S S := fI_rf
  refine (?_ : jf (fI [] [17] S) Prod.snd (f_X12_sumPoints S a1 a2 a3)) _ h
  unfold f_X12_sumPoints
  refine v_X12_sumPoints_6 (fun S14 x15 hS14 => ?_) FU S 0 0 hS
  exact f_some hS14
abbrev rm_X12_champion : Room := { frames := 8, cells := 0, slots := 0, locals := 186 }
theorem kY_X12_champion : kY yX12_champion cX12_champion 7 (some .int) 2 := ⟨kw_1_13, kw_7_207, by decide, by decide, by decide +kernel⟩
def L_X12_champion_31 (c1 : Int32) (k9 : MS → Int32 → Int32 → Option (Int32 × MS)) : Nat → MS → Int32 → Int32 → Int32 → Option (Int32 × MS) := lo4 fun rec7 S6 x3 x4 x5 =>
  chk 2 1177 (
  (if (S6.2 0 (2 : Int32).toNatClampNeg) ≤ x5 then
  k9 S6 x3 x4
 else
  bw (f_X12_sumPoints S6 x5 (-1) c1) (fun x11 S12 =>
  (if x4 < x11 then
  lt (x5 + 1) fun x13 =>
  rec7 S12 x5 x11 x13
 else
  lt (x5 + 1) fun x14 =>
  rec7 S12 x3 x4 x14))))
set_option maxRecDepth 100000 in
set_option maxHeartbeats 4000000 in
theorem l_X12_champion_31 {X : KX} {g : KG} {q : Nat → Nat} {res : Int32 × MS} (C : kC X g cX12_champion "MarkChainsModel" rm_X12_champion 7) (hR : ∀ (pc : Nat) (lv : List (Nat × Value)), decode cX12_champion pc = .ok (.ireturn, 1) → jW X g (mw g q res.2) 0 0 pc lv [.int res.1]) (c1 : Int32) (c2 : Int32) (k9 : MS → Int32 → Int32 → Option (Int32 × MS)) (hk10 : ∀ (S15 : MS) (x16 : Int32) (x17 : Int32), jJ X g res (mw g q S15) 0 0 75 [(2, .int c2), (3, .int x16), (4, .int x17)] [] (k9 S15 x16 x17)) : ∀ (n : Nat) (S6 : MS) (x3 : Int32) (x4 : Int32) (x5 : Int32), jJ X g res (mw g q S6) 0 0 31 [(0, .ref (q 0)), (1, .int c1), (2, .int c2), (3, .int x3), (4, .int x4), (5, .int x5)] [] (L_X12_champion_31 c1 k9 n S6 x3 x4 x5) := by
  refine r_lo4 (fun S6 x3 x4 x5 => mw g q S6) (fun S6 x3 x4 x5 => [(0, .ref (q 0)), (1, .int c1), (2, .int c2), (3, .int x3), (4, .int x4), (5, .int x5)]) (fun rec7 ih8 S6 x3 x4 x5 => ?_)
  refine r_iload (pc := 31) C dX12_champion_31 5 rfl ?_
  refine r_aload_n (pc := 33) C dX12_champion_33 0 rfl ?_
  refine mg_all (pc := 34) C dX12_champion_34 ?_
  refine r_iconst (pc := 37) C dX12_champion_37 (v := 2) (by decide) ?_
  refine ml_all (pc := 38) C dX12_champion_38 ?_
  refine r_icmp_ge 75 (pc := 39) C dX12_champion_39 (by decide) ?_ ?_
  · refine r_sub (lv' := [(2, .int c2), (3, .int x3), (4, .int x4)]) [2, 3, 4] rfl ?_
    exact hk10 S6 x3 x4
  · refine r_aload_n (pc := 42) C dX12_champion_42 0 rfl ?_
    refine r_iload (pc := 43) C dX12_champion_43 5 rfl ?_
    refine r_iconst (pc := 45) C dX12_champion_45 (v := (-1)) (by decide) ?_
    refine r_iload_n (pc := 46) C dX12_champion_46 1 rfl ?_
    refine r_cVwi (As := [.int x5, .int (-1), .int c1]) (st := []) (wf := mw g q) (pc := 47) C (fun _ _ h => c_X12_sumPoints h) kY_X12_sumPoints kw_7_210 kw_0_86 kw_7_208 rfl ⟨Nat.le_of_ble_eq_true rfl, Nat.le_of_ble_eq_true rfl⟩ rfl rfl ⟨Nat.zero_le _, Nat.zero_le _⟩ 0 rfl rfl rfl (Nat.le_of_ble_eq_true rfl) dX12_champion_47 (fun x11 S12 => ?_)
    refine r_istore (pc := 50) C dX12_champion_50 (lv' := [(0, .ref (q 0)), (1, .int c1), (2, .int c2), (3, .int x3), (4, .int x4), (5, .int x5), (6, .int x11)]) (by decide) [1, 2, 3, 4, 5, 6, 0] rfl ?_
    refine r_iload (pc := 52) C dX12_champion_52 6 rfl ?_
    refine r_iload (pc := 54) C dX12_champion_54 4 rfl ?_
    refine r_icmp_gt 62 (pc := 56) C dX12_champion_56 (by decide) ?_ ?_
    · refine r_iload (pc := 62) C dX12_champion_62 5 rfl ?_
      refine r_istore_n (pc := 64) C dX12_champion_64 (lv' := [(0, .ref (q 0)), (1, .int c1), (2, .int c2), (3, .int x5), (4, .int x4), (5, .int x5), (6, .int x11)]) (by decide) [1, 2, 3, 0, 4, 5, 6] rfl ?_
      refine r_iload (pc := 65) C dX12_champion_65 6 rfl ?_
      refine r_istore (pc := 67) C dX12_champion_67 (lv' := [(0, .ref (q 0)), (1, .int c1), (2, .int c2), (3, .int x5), (4, .int x11), (5, .int x5), (6, .int x11)]) (by decide) [1, 2, 3, 4, 0, 5, 6] rfl ?_
      refine r_iinc (pc := 69) C dX12_champion_69 (v := 1) (lv' := fun x13 => [(0, .ref (q 0)), (1, .int c1), (2, .int c2), (3, .int x5), (4, .int x11), (5, .int x13), (6, .int x11)]) 5 rfl (by decide) (by decide) [1, 2, 3, 4, 5, 0, 6] (fun _ => rfl) (fun x13 => ?_)
      refine r_goto 31 (pc := 72) C dX12_champion_72 (by decide) ?_
      refine r_sub (lv' := [(0, .ref (q 0)), (1, .int c1), (2, .int c2), (3, .int x5), (4, .int x11), (5, .int x13)]) [0, 1, 2, 3, 4, 5] rfl ?_
      exact ih8 S12 x5 x11 x13
    · refine r_goto 69 (pc := 59) C dX12_champion_59 (by decide) ?_
      refine r_iinc (pc := 69) C dX12_champion_69 (v := 1) (lv' := fun x14 => [(0, .ref (q 0)), (1, .int c1), (2, .int c2), (3, .int x3), (4, .int x4), (5, .int x14), (6, .int x11)]) 5 rfl (by decide) (by decide) [1, 2, 3, 4, 5, 0, 6] (fun _ => rfl) (fun x14 => ?_)
      refine r_goto 31 (pc := 72) C dX12_champion_72 (by decide) ?_
      refine r_sub (lv' := [(0, .ref (q 0)), (1, .int c1), (2, .int c2), (3, .int x3), (4, .int x4), (5, .int x14)]) [0, 1, 2, 3, 4, 5] rfl ?_
      exact ih8 S12 x3 x4 x14
set_option maxRecDepth 100000 in
theorem v_X12_champion_31 {S0 : MS} {c1 : Int32} {k9 : MS → Int32 → Int32 → Option (Int32 × MS)} (hk10 : ∀ (S15 : MS) (x16 : Int32) (x17 : Int32), (fI [] [17] S0) S15 → jf (fI [] [17] S0) Prod.snd (k9 S15 x16 x17)) : ∀ (n : Nat) (S6 : MS) (x3 : Int32) (x4 : Int32) (x5 : Int32), (fI [] [17] S0) S6 → jf (fI [] [17] S0) Prod.snd (L_X12_champion_31 c1 k9 n S6 x3 x4 x5) := by
  refine f_lo4 (I := (fI [] [17] S0)) (fun S6 x3 x4 x5 => S6) (fun rec7 ih8 S6 x3 x4 x5 hS6 => ?_)
  refine f_chk ?_
  refine f_ite ?_ ?_
  · exact hk10 S6 x3 x4 hS6
  · refine f_bwS (fun _ _ h => fI_tr hS6 (w_X12_sumPoints h) (by decide) (by decide)) (fun x11 S12 hS12 => ?_)
    refine f_ite ?_ ?_
    · refine f_lt (fun x13 => ?_)
      exact ih8 S12 x5 x11 x13 hS12
    · refine f_lt (fun x14 => ?_)
      exact ih8 S12 x3 x4 x14 hS12
def f_X12_champion (S : MS) (a1 : Int32) (a2 : Int32) : Option (Int32 × MS) :=
  bp (f_X12_isIn a1 0 20000) (fun x1 =>
  (if x1 = true then
  bp (f_X12_isIn a2 0 1) (fun x2 =>
  (if x2 = true then
  L_X12_champion_31 a1 (fun S18 x19 x20 =>
  (if a2 = 0 then
  some (x19, S18)
 else
  some (x20, S18))) FU S (-1) 0 0
 else
  some ((-2), S)))
 else
  some ((-2), S)))
set_option maxRecDepth 100000 in
set_option maxHeartbeats 4000000 in
theorem c_X12_champion {g : KG} {q : Nat → Nat} {S : MS} {a1 : Int32} {a2 : Int32} {r : Int32} {S' : MS} (h : f_X12_champion S a1 a2 = some (r, S')) : ∀ l, kM l yX12_champion cX12_champion 7 (some .int) rm_X12_champion g [.ref (q 0), .int a1, .int a2] (mw g q S) (mw g q S') (some (.int r)) 0 0 := by
  refine k_open_i (own := "MarkChainsModel") (by decide) rfl (Nat.le_of_ble_eq_true rfl) (fun X C hR => ?_)
  refine (?_ : jJ X g ((r, S') : Int32 × MS) (mw g q S) 0 0 0 [(0, .ref (q 0)), (1, .int a1), (2, .int a2)] [] (f_X12_champion S a1 a2)) h
  unfold f_X12_champion
  refine r_iload_n (pc := 0) C dX12_champion_0 1 rfl ?_
  refine r_iconst (pc := 1) C dX12_champion_1 (v := 0) (by decide) ?_
  refine r_sipush (pc := 2) C dX12_champion_2 (v := 20000) (by decide) ?_
  refine r_cSpz (As := [.int a1, .int 0, .int 20000]) (st := []) (pc := 5) C (fun _ h => c_X12_isIn h) kY_X12_isIn kw_6_124 kw_6_123 rfl ⟨Nat.le_of_ble_eq_true rfl, Nat.le_of_ble_eq_true rfl⟩ rfl rfl ⟨Nat.zero_le _, Nat.zero_le _⟩ rfl (Nat.le_of_ble_eq_true rfl) dX12_champion_5 (fun x1 => ?_)
  refine r_ifb_eq 20 (pc := 8) C dX12_champion_8 (by decide) ?_ ?_
  · refine r_bipush (pc := 20) C dX12_champion_20 (v := (-2)) (by decide) ?_
    exact r_retWI (wf := mw g q) hR (pc := 22) dX12_champion_22
  · refine r_iload_n (pc := 11) C dX12_champion_11 2 rfl ?_
    refine r_iconst (pc := 12) C dX12_champion_12 (v := 0) (by decide) ?_
    refine r_iconst (pc := 13) C dX12_champion_13 (v := 1) (by decide) ?_
    refine r_cSpz (As := [.int a2, .int 0, .int 1]) (st := []) (pc := 14) C (fun _ h => c_X12_isIn h) kY_X12_isIn kw_6_124 kw_6_123 rfl ⟨Nat.le_of_ble_eq_true rfl, Nat.le_of_ble_eq_true rfl⟩ rfl rfl ⟨Nat.zero_le _, Nat.zero_le _⟩ rfl (Nat.le_of_ble_eq_true rfl) dX12_champion_14 (fun x2 => ?_)
    refine r_ifb_ne 23 (pc := 17) C dX12_champion_17 (by decide) ?_ ?_
    · refine r_iconst (pc := 23) C dX12_champion_23 (v := (-1)) (by decide) ?_
      refine r_istore_n (pc := 24) C dX12_champion_24 (lv' := [(0, .ref (q 0)), (1, .int a1), (2, .int a2), (3, .int (-1))]) (by decide) [1, 2, 3, 0] rfl ?_
      refine r_iconst (pc := 25) C dX12_champion_25 (v := 0) (by decide) ?_
      refine r_istore (pc := 26) C dX12_champion_26 (lv' := [(0, .ref (q 0)), (1, .int a1), (2, .int a2), (3, .int (-1)), (4, .int 0)]) (by decide) [1, 2, 3, 4, 0] rfl ?_
      refine r_iconst (pc := 28) C dX12_champion_28 (v := 0) (by decide) ?_
      refine r_istore (pc := 29) C dX12_champion_29 (lv' := [(0, .ref (q 0)), (1, .int a1), (2, .int a2), (3, .int (-1)), (4, .int 0), (5, .int 0)]) (by decide) [1, 2, 3, 4, 5, 0] rfl ?_
      refine l_X12_champion_31 C hR a1 a2 _ (fun S18 x19 x20 => ?_) FU S (-1) 0 0
      refine r_iload_n (pc := 75) C dX12_champion_75 0 rfl ?_
      refine r_if_ne 83 (pc := 76) C dX12_champion_76 (by decide) ?_ ?_
      · refine r_iload (pc := 83) C dX12_champion_83 2 rfl ?_
        exact r_retWI (wf := mw g q) hR (pc := 85) dX12_champion_85
      · refine r_iload_n (pc := 79) C dX12_champion_79 1 rfl ?_
        refine r_goto 85 (pc := 80) C dX12_champion_80 (by decide) ?_
        exact r_retWI (wf := mw g q) hR (pc := 85) dX12_champion_85
    · refine r_bipush (pc := 20) C dX12_champion_20 (v := (-2)) (by decide) ?_
      exact r_retWI (wf := mw g q) hR (pc := 22) dX12_champion_22
set_option maxRecDepth 100000 in
theorem w_X12_champion {S : MS} {a1 : Int32} {a2 : Int32} {r : Int32} {S' : MS} (h : f_X12_champion S a1 a2 = some (r, S')) : fI [] [17] S S' := by
  have hS : fI [] [17] S S := fI_rf
  refine (?_ : jf (fI [] [17] S) Prod.snd (f_X12_champion S a1 a2)) _ h
  unfold f_X12_champion
  refine f_bp (fun x1 => ?_)
  refine f_ite ?_ ?_
  · refine f_bp (fun x2 => ?_)
    refine f_ite ?_ ?_
    · refine v_X12_champion_31 (fun S18 x19 x20 hS18 => ?_) FU S (-1) 0 0 hS
      refine f_ite ?_ ?_
      · exact f_some hS18
      · exact f_some hS18
    · exact f_some hS
  · exact f_some hS
abbrev rm_X12_table : Room := { frames := 8, cells := 0, slots := 0, locals := 186 }
theorem kY_X12_table : kY yX12_table cX12_table 3 (some .int) 2 := ⟨kw_1_13, kw_7_219, by decide, by decide, by decide +kernel⟩
def f_X12_table (S : MS) (a1 : Int32) (a2 : Int32) : Option (Int32 × MS) :=
  bp (f_X12_isIn a1 0 5) (fun x1 =>
  (if x1 = true then
  bp (f_X12_isIn a2 0 20000) (fun x2 =>
  (if x2 = true then
  bw (f_X12_sumPoints S (-1) a1 a2) (fun x3 S4 =>
  some (x3, S4))
 else
  some ((-2), S)))
 else
  some ((-2), S)))
set_option maxRecDepth 100000 in
set_option maxHeartbeats 4000000 in
theorem c_X12_table {g : KG} {q : Nat → Nat} {S : MS} {a1 : Int32} {a2 : Int32} {r : Int32} {S' : MS} (h : f_X12_table S a1 a2 = some (r, S')) : ∀ l, kM l yX12_table cX12_table 3 (some .int) rm_X12_table g [.ref (q 0), .int a1, .int a2] (mw g q S) (mw g q S') (some (.int r)) 0 0 := by
  refine k_open_i (own := "MarkChainsModel") (by decide) rfl (Nat.le_of_ble_eq_true rfl) (fun X C hR => ?_)
  refine (?_ : jJ X g ((r, S') : Int32 × MS) (mw g q S) 0 0 0 [(0, .ref (q 0)), (1, .int a1), (2, .int a2)] [] (f_X12_table S a1 a2)) h
  unfold f_X12_table
  refine r_iload_n (pc := 0) C dX12_table_0 1 rfl ?_
  refine r_iconst (pc := 1) C dX12_table_1 (v := 0) (by decide) ?_
  refine r_iconst (pc := 2) C dX12_table_2 (v := 5) (by decide) ?_
  refine r_cSpz (As := [.int a1, .int 0, .int 5]) (st := []) (pc := 3) C (fun _ h => c_X12_isIn h) kY_X12_isIn kw_6_124 kw_6_123 rfl ⟨Nat.le_of_ble_eq_true rfl, Nat.le_of_ble_eq_true rfl⟩ rfl rfl ⟨Nat.zero_le _, Nat.zero_le _⟩ rfl (Nat.le_of_ble_eq_true rfl) dX12_table_3 (fun x1 => ?_)
  refine r_ifb_eq 30 (pc := 6) C dX12_table_6 (by decide) ?_ ?_
  · refine r_bipush (pc := 30) C dX12_table_30 (v := (-2)) (by decide) ?_
    exact r_retWI (wf := mw g q) hR (pc := 32) dX12_table_32
  · refine r_iload_n (pc := 9) C dX12_table_9 2 rfl ?_
    refine r_iconst (pc := 10) C dX12_table_10 (v := 0) (by decide) ?_
    refine r_sipush (pc := 11) C dX12_table_11 (v := 20000) (by decide) ?_
    refine r_cSpz (As := [.int a2, .int 0, .int 20000]) (st := []) (pc := 14) C (fun _ h => c_X12_isIn h) kY_X12_isIn kw_6_124 kw_6_123 rfl ⟨Nat.le_of_ble_eq_true rfl, Nat.le_of_ble_eq_true rfl⟩ rfl rfl ⟨Nat.zero_le _, Nat.zero_le _⟩ rfl (Nat.le_of_ble_eq_true rfl) dX12_table_14 (fun x2 => ?_)
    refine r_ifb_eq 30 (pc := 17) C dX12_table_17 (by decide) ?_ ?_
    · refine r_bipush (pc := 30) C dX12_table_30 (v := (-2)) (by decide) ?_
      exact r_retWI (wf := mw g q) hR (pc := 32) dX12_table_32
    · refine r_aload_n (pc := 20) C dX12_table_20 0 rfl ?_
      refine r_iconst (pc := 21) C dX12_table_21 (v := (-1)) (by decide) ?_
      refine r_iload_n (pc := 22) C dX12_table_22 1 rfl ?_
      refine r_iload_n (pc := 23) C dX12_table_23 2 rfl ?_
      refine r_cVwi (As := [.int (-1), .int a1, .int a2]) (st := []) (wf := mw g q) (pc := 24) C (fun _ _ h => c_X12_sumPoints h) kY_X12_sumPoints kw_7_210 kw_0_86 kw_7_208 rfl ⟨Nat.le_of_ble_eq_true rfl, Nat.le_of_ble_eq_true rfl⟩ rfl rfl ⟨Nat.zero_le _, Nat.zero_le _⟩ 0 rfl rfl rfl (Nat.le_of_ble_eq_true rfl) dX12_table_24 (fun x3 S4 => ?_)
      refine r_goto 32 (pc := 27) C dX12_table_27 (by decide) ?_
      exact r_retWI (wf := mw g q) hR (pc := 32) dX12_table_32
set_option maxRecDepth 100000 in
theorem w_X12_table {S : MS} {a1 : Int32} {a2 : Int32} {r : Int32} {S' : MS} (h : f_X12_table S a1 a2 = some (r, S')) : fI [] [17] S S' := by
  have hS : fI [] [17] S S := fI_rf
  refine (?_ : jf (fI [] [17] S) Prod.snd (f_X12_table S a1 a2)) _ h
  unfold f_X12_table
  refine f_bp (fun x1 => ?_)
  refine f_ite ?_ ?_
  · refine f_bp (fun x2 => ?_)
    refine f_ite ?_ ?_
    · refine f_bwS (fun _ _ h => fI_tr hS (w_X12_sumPoints h) (by decide) (by decide)) (fun x3 S4 hS4 => ?_)
      exact f_some hS4
    · exact f_some hS
  · exact f_some hS
abbrev rm_X12_isMeeting : Room := { frames := 2, cells := 0, slots := 0, locals := 42 }
theorem kY_X12_isMeeting : kY yX12_isMeeting cX12_isMeeting 3 (some .boolean) 2 := ⟨kw_1_13, kw_7_227, by decide, by decide, by decide +kernel⟩
def f_X12_isMeeting (S : MS) (a1 : Int32) (a2 : Int32) : Option (Bool) :=
  bp (f_X12_of S a1 0) (fun x1 =>
  bp (f_X12_of S a2 0) (fun x2 =>
  (if x1 = x2 then
  bp (f_X12_of S a1 2) (fun x3 =>
  bp (f_X12_of S a2 2) (fun x4 =>
  (if x3 = x4 then
  bp (f_X12_of S a1 3) (fun x5 =>
  bp (f_X12_of S a2 3) (fun x6 =>
  (if x5 = x6 then
  some true
 else
  some false)))
 else
  some false)))
 else
  some false)))
set_option maxRecDepth 100000 in
set_option maxHeartbeats 4000000 in
theorem c_X12_isMeeting {g : KG} {q : Nat → Nat} {S : MS} {a1 : Int32} {a2 : Int32} {r : Bool} (h : f_X12_isMeeting S a1 a2 = some r) : ∀ l, kM l yX12_isMeeting cX12_isMeeting 3 (some .boolean) rm_X12_isMeeting g [.ref (q 0), .int a1, .int a2] (mw g q S) (mw g q S) (some (.int (b2 r))) 0 0 := by
  refine k_open_z (own := "MarkChainsModel") (by decide) rfl (Nat.le_of_ble_eq_true rfl) (fun X C hR => ?_)
  refine (?_ : jJ X g (r : Bool) (mw g q S) 0 0 0 [(0, .ref (q 0)), (1, .int a1), (2, .int a2)] [] (f_X12_isMeeting S a1 a2)) h
  unfold f_X12_isMeeting
  refine r_aload_n (pc := 0) C dX12_isMeeting_0 0 rfl ?_
  refine r_iload_n (pc := 1) C dX12_isMeeting_1 1 rfl ?_
  refine r_iconst (pc := 2) C dX12_isMeeting_2 (v := 0) (by decide) ?_
  refine r_cVpi (As := [.int a1, .int 0]) (st := []) (pc := 3) C (fun _ h => c_X12_of h) kY_X12_of kw_7_27 kw_0_64 kw_7_25 rfl ⟨Nat.le_of_ble_eq_true rfl, Nat.le_of_ble_eq_true rfl⟩ rfl rfl ⟨Nat.zero_le _, Nat.zero_le _⟩ 0 rfl rfl rfl (Nat.le_of_ble_eq_true rfl) dX12_isMeeting_3 (fun x1 => ?_)
  refine r_aload_n (pc := 6) C dX12_isMeeting_6 0 rfl ?_
  refine r_iload_n (pc := 7) C dX12_isMeeting_7 2 rfl ?_
  refine r_iconst (pc := 8) C dX12_isMeeting_8 (v := 0) (by decide) ?_
  refine r_cVpi (As := [.int a2, .int 0]) (st := [.int x1]) (pc := 9) C (fun _ h => c_X12_of h) kY_X12_of kw_7_27 kw_0_64 kw_7_25 rfl ⟨Nat.le_of_ble_eq_true rfl, Nat.le_of_ble_eq_true rfl⟩ rfl rfl ⟨Nat.zero_le _, Nat.zero_le _⟩ 0 rfl rfl rfl (Nat.le_of_ble_eq_true rfl) dX12_isMeeting_9 (fun x2 => ?_)
  refine r_icmp_ne 49 (pc := 12) C dX12_isMeeting_12 (by decide) ?_ ?_
  · refine r_iconst (pc := 49) C dX12_isMeeting_49 (v := 0) (by decide) ?_
    exact r_retPZ hR rfl (pc := 50) dX12_isMeeting_50
  · refine r_aload_n (pc := 15) C dX12_isMeeting_15 0 rfl ?_
    refine r_iload_n (pc := 16) C dX12_isMeeting_16 1 rfl ?_
    refine r_iconst (pc := 17) C dX12_isMeeting_17 (v := 2) (by decide) ?_
    refine r_cVpi (As := [.int a1, .int 2]) (st := []) (pc := 18) C (fun _ h => c_X12_of h) kY_X12_of kw_7_27 kw_0_64 kw_7_25 rfl ⟨Nat.le_of_ble_eq_true rfl, Nat.le_of_ble_eq_true rfl⟩ rfl rfl ⟨Nat.zero_le _, Nat.zero_le _⟩ 0 rfl rfl rfl (Nat.le_of_ble_eq_true rfl) dX12_isMeeting_18 (fun x3 => ?_)
    refine r_aload_n (pc := 21) C dX12_isMeeting_21 0 rfl ?_
    refine r_iload_n (pc := 22) C dX12_isMeeting_22 2 rfl ?_
    refine r_iconst (pc := 23) C dX12_isMeeting_23 (v := 2) (by decide) ?_
    refine r_cVpi (As := [.int a2, .int 2]) (st := [.int x3]) (pc := 24) C (fun _ h => c_X12_of h) kY_X12_of kw_7_27 kw_0_64 kw_7_25 rfl ⟨Nat.le_of_ble_eq_true rfl, Nat.le_of_ble_eq_true rfl⟩ rfl rfl ⟨Nat.zero_le _, Nat.zero_le _⟩ 0 rfl rfl rfl (Nat.le_of_ble_eq_true rfl) dX12_isMeeting_24 (fun x4 => ?_)
    refine r_icmp_ne 49 (pc := 27) C dX12_isMeeting_27 (by decide) ?_ ?_
    · refine r_iconst (pc := 49) C dX12_isMeeting_49 (v := 0) (by decide) ?_
      exact r_retPZ hR rfl (pc := 50) dX12_isMeeting_50
    · refine r_aload_n (pc := 30) C dX12_isMeeting_30 0 rfl ?_
      refine r_iload_n (pc := 31) C dX12_isMeeting_31 1 rfl ?_
      refine r_iconst (pc := 32) C dX12_isMeeting_32 (v := 3) (by decide) ?_
      refine r_cVpi (As := [.int a1, .int 3]) (st := []) (pc := 33) C (fun _ h => c_X12_of h) kY_X12_of kw_7_27 kw_0_64 kw_7_25 rfl ⟨Nat.le_of_ble_eq_true rfl, Nat.le_of_ble_eq_true rfl⟩ rfl rfl ⟨Nat.zero_le _, Nat.zero_le _⟩ 0 rfl rfl rfl (Nat.le_of_ble_eq_true rfl) dX12_isMeeting_33 (fun x5 => ?_)
      refine r_aload_n (pc := 36) C dX12_isMeeting_36 0 rfl ?_
      refine r_iload_n (pc := 37) C dX12_isMeeting_37 2 rfl ?_
      refine r_iconst (pc := 38) C dX12_isMeeting_38 (v := 3) (by decide) ?_
      refine r_cVpi (As := [.int a2, .int 3]) (st := [.int x5]) (pc := 39) C (fun _ h => c_X12_of h) kY_X12_of kw_7_27 kw_0_64 kw_7_25 rfl ⟨Nat.le_of_ble_eq_true rfl, Nat.le_of_ble_eq_true rfl⟩ rfl rfl ⟨Nat.zero_le _, Nat.zero_le _⟩ 0 rfl rfl rfl (Nat.le_of_ble_eq_true rfl) dX12_isMeeting_39 (fun x6 => ?_)
      refine r_icmp_ne 49 (pc := 42) C dX12_isMeeting_42 (by decide) ?_ ?_
      · refine r_iconst (pc := 49) C dX12_isMeeting_49 (v := 0) (by decide) ?_
        exact r_retPZ hR rfl (pc := 50) dX12_isMeeting_50
      · refine r_iconst (pc := 45) C dX12_isMeeting_45 (v := 1) (by decide) ?_
        refine r_goto 50 (pc := 46) C dX12_isMeeting_46 (by decide) ?_
        exact r_retPZ hR rfl (pc := 50) dX12_isMeeting_50
abbrev rm_X12_placed : Room := { frames := 3, cells := 0, slots := 0, locals := 64 }
theorem kY_X12_placed : kY yX12_placed cX12_placed 4 (some .int) 1 := ⟨kw_1_13, kw_7_223, by decide, by decide, by decide +kernel⟩
def L_X12_placed_28 (S : MS) (c1 : Int32) (k7 : Int32 → Option (Int32)) : Nat → Int32 → Int32 → Option (Int32) := lo2 fun rec5 x3 x4 =>
  chk 3 1177 (
  (if (S.2 0 (3 : Int32).toNatClampNeg) ≤ x4 then
  k7 x3
 else
  bp (f_X12_isMeeting S x4 c1) (fun x9 =>
  jn1 (fun (x10 : Int32) =>
  lt (x3 + x10) fun x11 =>
  lt (x4 + 1) fun x12 =>
  rec5 x11 x12) (fun k13 =>
  jn0 (k13 0) (fun k15 =>
  (if x9 = true then
  bp (f_X12_of S x4 10) (fun x17 =>
  (if x17 = (-1) then
  bp (f_X12_of S c1 0) (fun x18 =>
  bp (f_X12_of S x4 5) (fun x19 =>
  bp (f_X12_of S c1 5) (fun x20 =>
  bp (f_X12_isBetter S x18 x19 x20) (fun x21 =>
  (if x21 = true then
  k13 1
 else
  k15)))))
 else
  k15))
 else
  k15))))))
set_option maxRecDepth 100000 in
set_option maxHeartbeats 4000000 in
theorem l_X12_placed_28 {X : KX} {g : KG} {q : Nat → Nat} {res : Int32} {S : MS} (C : kC X g cX12_placed "MarkChainsModel" rm_X12_placed 4) (hR : ∀ (pc : Nat) (lv : List (Nat × Value)), decode cX12_placed pc = .ok (.ireturn, 1) → jW X g (mw g q S) 0 0 pc lv [.int res]) (c1 : Int32) (k7 : Int32 → Option (Int32)) (hk8 : ∀ (x22 : Int32), jJ X g res (mw g q S) 0 0 97 [(2, .int x22)] [] (k7 x22)) : ∀ (n : Nat) (x3 : Int32) (x4 : Int32), jJ X g res (mw g q S) 0 0 28 [(0, .ref (q 0)), (1, .int c1), (2, .int x3), (3, .int x4)] [] (L_X12_placed_28 S c1 k7 n x3 x4) := by
  refine r_lo2 (fun x3 x4 => mw g q S) (fun x3 x4 => [(0, .ref (q 0)), (1, .int c1), (2, .int x3), (3, .int x4)]) (fun rec5 ih6 x3 x4 => ?_)
  refine r_iload_n (pc := 28) C dX12_placed_28 3 rfl ?_
  refine r_aload_n (pc := 29) C dX12_placed_29 0 rfl ?_
  refine mg_all (pc := 30) C dX12_placed_30 ?_
  refine r_iconst (pc := 33) C dX12_placed_33 (v := 3) (by decide) ?_
  refine ml_all (pc := 34) C dX12_placed_34 ?_
  refine r_icmp_ge 97 (pc := 35) C dX12_placed_35 (by decide) ?_ ?_
  · refine r_sub (lv' := [(2, .int x3)]) [2] rfl ?_
    exact hk8 x3
  · refine r_iload_n (pc := 38) C dX12_placed_38 2 rfl ?_
    refine r_aload_n (pc := 39) C dX12_placed_39 0 rfl ?_
    refine r_iload_n (pc := 40) C dX12_placed_40 3 rfl ?_
    refine r_iload_n (pc := 41) C dX12_placed_41 1 rfl ?_
    refine r_cVpz (As := [.int x4, .int c1]) (st := [.int x3]) (pc := 42) C (fun _ h => c_X12_isMeeting h) kY_X12_isMeeting kw_7_226 kw_0_88 kw_7_224 rfl ⟨Nat.le_of_ble_eq_true rfl, Nat.le_of_ble_eq_true rfl⟩ rfl rfl ⟨Nat.zero_le _, Nat.zero_le _⟩ 0 rfl rfl rfl (Nat.le_of_ble_eq_true rfl) dX12_placed_42 (fun x9 => ?_)
    refine r_jn1 89 (fun (x10 : Int32) => mw g q S) (fun (x10 : Int32) => [(0, .ref (q 0)), (1, .int c1), (3, .int x4)]) (fun (x10 : Int32) => [.int x10, .int x3]) (fun x10 => ?_) (fun k13 hk14 => ?_)
    · refine r_iadd (pc := 89) C dX12_placed_89 ?_
      refine r_istoreV_n (pc := 90) C dX12_placed_90 (lv' := fun x11 => [(0, .ref (q 0)), (1, .int c1), (2, .int x11), (3, .int x4)]) (by decide) [1, 2, 0, 3] (fun _ => rfl) (fun x11 => ?_)
      refine r_iinc (pc := 91) C dX12_placed_91 (v := 1) (lv' := fun x12 => [(0, .ref (q 0)), (1, .int c1), (2, .int x11), (3, .int x12)]) 3 rfl (by decide) (by decide) [1, 2, 3, 0] (fun _ => rfl) (fun x12 => ?_)
      refine r_goto 28 (pc := 94) C dX12_placed_94 (by decide) ?_
      exact ih6 x11 x12
    · refine r_jn0 88 (mw g q S) ([(0, .ref (q 0)), (1, .int c1), (3, .int x4)]) ([.int x3]) ?_ (fun k15 hk16 => ?_)
      · refine r_iconst (pc := 88) C dX12_placed_88 (v := 0) (by decide) ?_
        exact hk14 0
      · refine r_ifb_eq 88 (pc := 45) C dX12_placed_45 (by decide) ?_ ?_
        · refine r_sub (lv' := [(0, .ref (q 0)), (1, .int c1), (3, .int x4)]) [0, 1, 3] rfl ?_
          exact hk16
        · refine r_aload_n (pc := 48) C dX12_placed_48 0 rfl ?_
          refine r_iload_n (pc := 49) C dX12_placed_49 3 rfl ?_
          refine r_bipush (pc := 50) C dX12_placed_50 (v := 10) (by decide) ?_
          refine r_cVpi (As := [.int x4, .int 10]) (st := [.int x3]) (pc := 52) C (fun _ h => c_X12_of h) kY_X12_of kw_7_27 kw_0_64 kw_7_25 rfl ⟨Nat.le_of_ble_eq_true rfl, Nat.le_of_ble_eq_true rfl⟩ rfl rfl ⟨Nat.zero_le _, Nat.zero_le _⟩ 0 rfl rfl rfl (Nat.le_of_ble_eq_true rfl) dX12_placed_52 (fun x17 => ?_)
          refine r_iconst (pc := 55) C dX12_placed_55 (v := (-1)) (by decide) ?_
          refine r_icmp_ne 88 (pc := 56) C dX12_placed_56 (by decide) ?_ ?_
          · refine r_sub (lv' := [(0, .ref (q 0)), (1, .int c1), (3, .int x4)]) [0, 1, 3] rfl ?_
            exact hk16
          · refine r_aload_n (pc := 59) C dX12_placed_59 0 rfl ?_
            refine r_aload_n (pc := 60) C dX12_placed_60 0 rfl ?_
            refine r_iload_n (pc := 61) C dX12_placed_61 1 rfl ?_
            refine r_iconst (pc := 62) C dX12_placed_62 (v := 0) (by decide) ?_
            refine r_cVpi (As := [.int c1, .int 0]) (st := [.ref (q 0), .int x3]) (pc := 63) C (fun _ h => c_X12_of h) kY_X12_of kw_7_27 kw_0_64 kw_7_25 rfl ⟨Nat.le_of_ble_eq_true rfl, Nat.le_of_ble_eq_true rfl⟩ rfl rfl ⟨Nat.zero_le _, Nat.zero_le _⟩ 0 rfl rfl rfl (Nat.le_of_ble_eq_true rfl) dX12_placed_63 (fun x18 => ?_)
            refine r_aload_n (pc := 66) C dX12_placed_66 0 rfl ?_
            refine r_iload_n (pc := 67) C dX12_placed_67 3 rfl ?_
            refine r_iconst (pc := 68) C dX12_placed_68 (v := 5) (by decide) ?_
            refine r_cVpi (As := [.int x4, .int 5]) (st := [.int x18, .ref (q 0), .int x3]) (pc := 69) C (fun _ h => c_X12_of h) kY_X12_of kw_7_27 kw_0_64 kw_7_25 rfl ⟨Nat.le_of_ble_eq_true rfl, Nat.le_of_ble_eq_true rfl⟩ rfl rfl ⟨Nat.zero_le _, Nat.zero_le _⟩ 0 rfl rfl rfl (Nat.le_of_ble_eq_true rfl) dX12_placed_69 (fun x19 => ?_)
            refine r_aload_n (pc := 72) C dX12_placed_72 0 rfl ?_
            refine r_iload_n (pc := 73) C dX12_placed_73 1 rfl ?_
            refine r_iconst (pc := 74) C dX12_placed_74 (v := 5) (by decide) ?_
            refine r_cVpi (As := [.int c1, .int 5]) (st := [.int x19, .int x18, .ref (q 0), .int x3]) (pc := 75) C (fun _ h => c_X12_of h) kY_X12_of kw_7_27 kw_0_64 kw_7_25 rfl ⟨Nat.le_of_ble_eq_true rfl, Nat.le_of_ble_eq_true rfl⟩ rfl rfl ⟨Nat.zero_le _, Nat.zero_le _⟩ 0 rfl rfl rfl (Nat.le_of_ble_eq_true rfl) dX12_placed_75 (fun x20 => ?_)
            refine r_cVpz (As := [.int x18, .int x19, .int x20]) (st := [.int x3]) (pc := 78) C (fun _ h => c_X12_isBetter h) kY_X12_isBetter kw_7_118 kw_0_75 kw_7_116 rfl ⟨Nat.le_of_ble_eq_true rfl, Nat.le_of_ble_eq_true rfl⟩ rfl rfl ⟨Nat.zero_le _, Nat.zero_le _⟩ 0 rfl rfl rfl (Nat.le_of_ble_eq_true rfl) dX12_placed_78 (fun x21 => ?_)
            refine r_ifb_eq 88 (pc := 81) C dX12_placed_81 (by decide) ?_ ?_
            · refine r_sub (lv' := [(0, .ref (q 0)), (1, .int c1), (3, .int x4)]) [0, 1, 3] rfl ?_
              exact hk16
            · refine r_iconst (pc := 84) C dX12_placed_84 (v := 1) (by decide) ?_
              refine r_goto 89 (pc := 85) C dX12_placed_85 (by decide) ?_
              refine r_sub (lv' := [(0, .ref (q 0)), (1, .int c1), (3, .int x4)]) [0, 1, 3] rfl ?_
              exact hk14 1
def f_X12_placed (S : MS) (a1 : Int32) : Option (Int32) :=
  bp (f_X12_isMark S a1) (fun x1 =>
  (if x1 = true then
  bp (f_X12_of S a1 10) (fun x2 =>
  (if x2 = (-1) then
  L_X12_placed_28 S a1 (fun x23 =>
  some x23) FU 0 0
 else
  some (-1)))
 else
  some (-2)))
set_option maxRecDepth 100000 in
set_option maxHeartbeats 4000000 in
theorem c_X12_placed {g : KG} {q : Nat → Nat} {S : MS} {a1 : Int32} {r : Int32} (h : f_X12_placed S a1 = some r) : ∀ l, kM l yX12_placed cX12_placed 4 (some .int) rm_X12_placed g [.ref (q 0), .int a1] (mw g q S) (mw g q S) (some (.int r)) 0 0 := by
  refine k_open_i (own := "MarkChainsModel") (by decide) rfl (Nat.le_of_ble_eq_true rfl) (fun X C hR => ?_)
  refine (?_ : jJ X g (r : Int32) (mw g q S) 0 0 0 [(0, .ref (q 0)), (1, .int a1)] [] (f_X12_placed S a1)) h
  unfold f_X12_placed
  refine r_aload_n (pc := 0) C dX12_placed_0 0 rfl ?_
  refine r_iload_n (pc := 1) C dX12_placed_1 1 rfl ?_
  refine r_cVpz (As := [.int a1]) (st := []) (pc := 2) C (fun _ h => c_X12_isMark h) kY_X12_isMark kw_7_11 kw_0_60 kw_7_9 rfl ⟨Nat.le_of_ble_eq_true rfl, Nat.le_of_ble_eq_true rfl⟩ rfl rfl ⟨Nat.zero_le _, Nat.zero_le _⟩ 0 rfl rfl rfl (Nat.le_of_ble_eq_true rfl) dX12_placed_2 (fun x1 => ?_)
  refine r_ifb_ne 11 (pc := 5) C dX12_placed_5 (by decide) ?_ ?_
  · refine r_aload_n (pc := 11) C dX12_placed_11 0 rfl ?_
    refine r_iload_n (pc := 12) C dX12_placed_12 1 rfl ?_
    refine r_bipush (pc := 13) C dX12_placed_13 (v := 10) (by decide) ?_
    refine r_cVpi (As := [.int a1, .int 10]) (st := []) (pc := 15) C (fun _ h => c_X12_of h) kY_X12_of kw_7_27 kw_0_64 kw_7_25 rfl ⟨Nat.le_of_ble_eq_true rfl, Nat.le_of_ble_eq_true rfl⟩ rfl rfl ⟨Nat.zero_le _, Nat.zero_le _⟩ 0 rfl rfl rfl (Nat.le_of_ble_eq_true rfl) dX12_placed_15 (fun x2 => ?_)
    refine r_iconst (pc := 18) C dX12_placed_18 (v := (-1)) (by decide) ?_
    refine r_icmp_eq 24 (pc := 19) C dX12_placed_19 (by decide) ?_ ?_
    · refine r_iconst (pc := 24) C dX12_placed_24 (v := 0) (by decide) ?_
      refine r_istore_n (pc := 25) C dX12_placed_25 (lv' := [(0, .ref (q 0)), (1, .int a1), (2, .int 0)]) (by decide) [1, 2, 0] rfl ?_
      refine r_iconst (pc := 26) C dX12_placed_26 (v := 0) (by decide) ?_
      refine r_istore_n (pc := 27) C dX12_placed_27 (lv' := [(0, .ref (q 0)), (1, .int a1), (2, .int 0), (3, .int 0)]) (by decide) [1, 2, 3, 0] rfl ?_
      refine l_X12_placed_28 C hR a1 _ (fun x23 => ?_) FU 0 0
      refine r_iload_n (pc := 97) C dX12_placed_97 0 rfl ?_
      exact r_retPI hR (pc := 98) dX12_placed_98
    · refine r_iconst (pc := 22) C dX12_placed_22 (v := (-1)) (by decide) ?_
      exact r_retPI hR (pc := 23) dX12_placed_23
  · refine r_bipush (pc := 8) C dX12_placed_8 (v := (-2)) (by decide) ?_
    exact r_retPI hR (pc := 10) dX12_placed_10
