abbrev rm_X12_holders : Room := { frames := 6, cells := 0, slots := 0, locals := 136 }
theorem kY_X12_holders : kY yX12_holders cX12_holders 4 (some .int) 3 := ⟨kw_1_13, kw_7_135, by decide, by decide, by decide +kernel⟩
def f_X12_holders (S : MS) (a1 : Int32) (a2 : Int32) (a3 : Int32) : Option (Int32 × MS) :=
  bp (f_X12_canAsk S a1 a2 a3) (fun x1 =>
  (if x1 = true then
  bp (f_X12_layChain S a1 a2 a3) (fun S2 =>
  bp (f_X12_holdersNow S2) (fun x3 =>
  some (x3, S2)))
 else
  some ((-2), S)))
set_option maxRecDepth 100000 in
set_option maxHeartbeats 4000000 in
theorem c_X12_holders {g : KG} {q : Nat → Nat} {S : MS} {a1 : Int32} {a2 : Int32} {a3 : Int32} {r : Int32} {S' : MS} (h : f_X12_holders S a1 a2 a3 = some (r, S')) : ∀ l, kM l yX12_holders cX12_holders 4 (some .int) rm_X12_holders g [.ref (q 0), .int a1, .int a2, .int a3] (mw g q S) (mw g q S') (some (.int r)) 0 0 := by
  refine k_open_i (own := "MarkChainsModel") (by decide) rfl (Nat.le_of_ble_eq_true rfl) (fun X C hR => ?_)
  refine (?_ : jJ X g ((r, S') : Int32 × MS) (mw g q S) 0 0 0 [(0, .ref (q 0)), (1, .int a1), (2, .int a2), (3, .int a3)] [] (f_X12_holders S a1 a2 a3)) h
  unfold f_X12_holders
  refine r_aload_n (pc := 0) C dX12_holders_0 0 rfl ?_
  refine r_iload_n (pc := 1) C dX12_holders_1 1 rfl ?_
  refine r_iload_n (pc := 2) C dX12_holders_2 2 rfl ?_
  refine r_iload_n (pc := 3) C dX12_holders_3 3 rfl ?_
  refine r_cVpz (As := [.int a1, .int a2, .int a3]) (st := []) (pc := 4) C (fun _ h => c_X12_canAsk h) kY_X12_canAsk kw_7_102 kw_0_71 kw_7_100 rfl ⟨Nat.le_of_ble_eq_true rfl, Nat.le_of_ble_eq_true rfl⟩ rfl rfl ⟨Nat.zero_le _, Nat.zero_le _⟩ 0 rfl rfl rfl (Nat.le_of_ble_eq_true rfl) dX12_holders_4 (fun x1 => ?_)
  refine r_ifb_ne 13 (pc := 7) C dX12_holders_7 (by decide) ?_ ?_
  · refine r_aload_n (pc := 13) C dX12_holders_13 0 rfl ?_
    refine r_iload_n (pc := 14) C dX12_holders_14 1 rfl ?_
    refine r_iload_n (pc := 15) C dX12_holders_15 2 rfl ?_
    refine r_iload_n (pc := 16) C dX12_holders_16 3 rfl ?_
    refine r_cVwv (As := [.int a1, .int a2, .int a3]) (st := []) (wf := mw g q) (pc := 17) C (fun _ h => c_X12_layChain h) kY_X12_layChain kw_7_106 kw_0_72 kw_7_104 rfl ⟨Nat.le_of_ble_eq_true rfl, Nat.le_of_ble_eq_true rfl⟩ rfl rfl ⟨Nat.zero_le _, Nat.zero_le _⟩ 0 rfl rfl rfl (Nat.le_of_ble_eq_true rfl) dX12_holders_17 (fun S2 => ?_)
    refine r_aload_n (pc := 20) C dX12_holders_20 0 rfl ?_
    refine r_cVpi (As := []) (st := []) (pc := 21) C (fun _ h => c_X12_holdersNow h) kY_X12_holdersNow kw_7_138 kw_0_78 kw_7_136 rfl ⟨Nat.le_of_ble_eq_true rfl, Nat.le_of_ble_eq_true rfl⟩ rfl rfl ⟨Nat.zero_le _, Nat.zero_le _⟩ 0 rfl rfl rfl (Nat.le_of_ble_eq_true rfl) dX12_holders_21 (fun x3 => ?_)
    exact r_retWI (wf := mw g q) hR (pc := 24) dX12_holders_24
  · refine r_bipush (pc := 10) C dX12_holders_10 (v := (-2)) (by decide) ?_
    exact r_retWI (wf := mw g q) hR (pc := 12) dX12_holders_12
set_option maxRecDepth 100000 in
theorem w_X12_holders {S : MS} {a1 : Int32} {a2 : Int32} {a3 : Int32} {r : Int32} {S' : MS} (h : f_X12_holders S a1 a2 a3 = some (r, S')) : fI [20] [18, 19] S S' := by
  have hS : fI [20] [18, 19] S S := fI_rf
  refine (?_ : jf (fI [20] [18, 19] S) Prod.snd (f_X12_holders S a1 a2 a3)) _ h
  unfold f_X12_holders
  refine f_bp (fun x1 => ?_)
  refine f_ite ?_ ?_
  · refine f_bpS (fun _ h => fI_tr hS (w_X12_layChain h) (by decide) (by decide)) (fun S2 hS2 => ?_)
    refine f_bp (fun x3 => ?_)
    exact f_some hS2
  · exact f_some hS
abbrev rm_X12_ties : Room := { frames := 6, cells := 0, slots := 0, locals := 136 }
theorem kY_X12_ties : kY yX12_ties cX12_ties 6 (some .int) 3 := ⟨kw_1_13, kw_7_143, by decide, by decide, by decide +kernel⟩
def L_X12_ties_26 (S : MS) (k7 : Int32 → Option (Int32 × MS)) : Nat → Int32 → Int32 → Option (Int32 × MS) := lo2 fun rec5 x3 x4 =>
  (if (S.1 20) ≤ x4 then
  k7 x3
 else
  bp (f_X12_value S x4) (fun x9 =>
  bp (f_X12_value S (x4 - 1)) (fun x10 =>
  jn1 (fun (x11 : Int32) =>
  lt (x3 + x11) fun x12 =>
  lt (x4 + 1) fun x13 =>
  rec5 x12 x13) (fun k14 =>
  (if x9 = x10 then
  k14 1
 else
  k14 0)))))
set_option maxRecDepth 100000 in
set_option maxHeartbeats 4000000 in
theorem l_X12_ties_26 {X : KX} {g : KG} {q : Nat → Nat} {res : Int32 × MS} {S : MS} (C : kC X g cX12_ties "MarkChainsModel" rm_X12_ties 6) (hR : ∀ (pc : Nat) (lv : List (Nat × Value)), decode cX12_ties pc = .ok (.ireturn, 1) → jW X g (mw g q res.2) 0 0 pc lv [.int res.1]) (k7 : Int32 → Option (Int32 × MS)) (hk8 : ∀ (x16 : Int32), jJ X g res (mw g q S) 0 0 68 [(4, .int x16)] [] (k7 x16)) : ∀ (n : Nat) (x3 : Int32) (x4 : Int32), jJ X g res (mw g q S) 0 0 26 [(0, .ref (q 0)), (4, .int x3), (5, .int x4)] [] (L_X12_ties_26 S k7 n x3 x4) := by
  refine r_lo2 (fun x3 x4 => mw g q S) (fun x3 x4 => [(0, .ref (q 0)), (4, .int x3), (5, .int x4)]) (fun rec5 ih6 x3 x4 => ?_)
  refine r_iload (pc := 26) C dX12_ties_26 2 rfl ?_
  refine r_aload_n (pc := 28) C dX12_ties_28 0 rfl ?_
  refine mg_links (pc := 29) C dX12_ties_29 ?_
  refine r_icmp_ge 68 (pc := 32) C dX12_ties_32 (by decide) ?_ ?_
  · refine r_sub (lv' := [(4, .int x3)]) [1] rfl ?_
    exact hk8 x3
  · refine r_iload (pc := 35) C dX12_ties_35 1 rfl ?_
    refine r_aload_n (pc := 37) C dX12_ties_37 0 rfl ?_
    refine r_iload (pc := 38) C dX12_ties_38 2 rfl ?_
    refine r_cVpi (As := [.int x4]) (st := [.int x3]) (pc := 40) C (fun _ h => c_X12_value h) kY_X12_value kw_7_130 kw_0_77 kw_7_128 rfl ⟨Nat.le_of_ble_eq_true rfl, Nat.le_of_ble_eq_true rfl⟩ rfl rfl ⟨Nat.zero_le _, Nat.zero_le _⟩ 0 rfl rfl rfl (Nat.le_of_ble_eq_true rfl) dX12_ties_40 (fun x9 => ?_)
    refine r_aload_n (pc := 43) C dX12_ties_43 0 rfl ?_
    refine r_iload (pc := 44) C dX12_ties_44 2 rfl ?_
    refine r_iconst (pc := 46) C dX12_ties_46 (v := 1) (by decide) ?_
    refine r_isub (pc := 47) C dX12_ties_47 ?_
    refine r_cVpi (As := [.int (x4 - 1)]) (st := [.int x9, .int x3]) (pc := 48) C (fun _ h => c_X12_value h) kY_X12_value kw_7_130 kw_0_77 kw_7_128 rfl ⟨Nat.le_of_ble_eq_true rfl, Nat.le_of_ble_eq_true rfl⟩ rfl rfl ⟨Nat.zero_le _, Nat.zero_le _⟩ 0 rfl rfl rfl (Nat.le_of_ble_eq_true rfl) dX12_ties_48 (fun x10 => ?_)
    refine r_jn1 59 (fun (x11 : Int32) => mw g q S) (fun (x11 : Int32) => [(0, .ref (q 0)), (5, .int x4)]) (fun (x11 : Int32) => [.int x11, .int x3]) (fun x11 => ?_) (fun k14 hk15 => ?_)
    · refine r_iadd (pc := 59) C dX12_ties_59 ?_
      refine r_istoreV (pc := 60) C dX12_ties_60 (lv' := fun x12 => [(0, .ref (q 0)), (4, .int x12), (5, .int x4)]) (by decide) [1, 0, 2] (fun _ => rfl) (fun x12 => ?_)
      refine r_iinc (pc := 62) C dX12_ties_62 (v := 1) (lv' := fun x13 => [(0, .ref (q 0)), (4, .int x12), (5, .int x13)]) 2 rfl (by decide) (by decide) [1, 2, 0] (fun _ => rfl) (fun x13 => ?_)
      refine r_goto 26 (pc := 65) C dX12_ties_65 (by decide) ?_
      exact ih6 x12 x13
    · refine r_icmp_ne 58 (pc := 51) C dX12_ties_51 (by decide) ?_ ?_
      · refine r_iconst (pc := 58) C dX12_ties_58 (v := 0) (by decide) ?_
        refine r_sub (lv' := [(0, .ref (q 0)), (5, .int x4)]) [0, 2] rfl ?_
        exact hk15 0
      · refine r_iconst (pc := 54) C dX12_ties_54 (v := 1) (by decide) ?_
        refine r_goto 59 (pc := 55) C dX12_ties_55 (by decide) ?_
        refine r_sub (lv' := [(0, .ref (q 0)), (5, .int x4)]) [0, 2] rfl ?_
        exact hk15 1
set_option maxRecDepth 100000 in
theorem v_X12_ties_26 {S0 : MS} {S : MS} (hS : (fI [20] [18, 19] S0) S) {k7 : Int32 → Option (Int32 × MS)} (hk8 : ∀ (x16 : Int32), (fI [20] [18, 19] S0) S → jf (fI [20] [18, 19] S0) Prod.snd (k7 x16)) : ∀ (n : Nat) (x3 : Int32) (x4 : Int32), (fI [20] [18, 19] S0) S → jf (fI [20] [18, 19] S0) Prod.snd (L_X12_ties_26 S k7 n x3 x4) := by
  refine f_lo2 (I := (fI [20] [18, 19] S0)) (fun x3 x4 => S) (fun rec5 ih6 x3 x4 hS => ?_)
  refine f_ite ?_ ?_
  · exact hk8 x3 hS
  · refine f_bp (fun x9 => ?_)
    refine f_bp (fun x10 => ?_)
    refine f_jm1 hS (fun x11 hS => ?_) (fun k14 hk15 => ?_)
    · refine f_lt (fun x12 => ?_)
      refine f_lt (fun x13 => ?_)
      exact ih6 x12 x13 hS
    · refine f_ite ?_ ?_
      · exact hk15 1 hS
      · exact hk15 0 hS
def f_X12_ties (S : MS) (a1 : Int32) (a2 : Int32) (a3 : Int32) : Option (Int32 × MS) :=
  bp (f_X12_canAsk S a1 a2 a3) (fun x1 =>
  (if x1 = true then
  bp (f_X12_layChain S a1 a2 a3) (fun S2 =>
  L_X12_ties_26 S2 (fun x17 =>
  some (x17, S2)) FU 0 1)
 else
  some ((-2), S)))
set_option maxRecDepth 100000 in
set_option maxHeartbeats 4000000 in
theorem c_X12_ties {g : KG} {q : Nat → Nat} {S : MS} {a1 : Int32} {a2 : Int32} {a3 : Int32} {r : Int32} {S' : MS} (h : f_X12_ties S a1 a2 a3 = some (r, S')) : ∀ l, kM l yX12_ties cX12_ties 6 (some .int) rm_X12_ties g [.ref (q 0), .int a1, .int a2, .int a3] (mw g q S) (mw g q S') (some (.int r)) 0 0 := by
  refine k_open_i (own := "MarkChainsModel") (by decide) rfl (Nat.le_of_ble_eq_true rfl) (fun X C hR => ?_)
  refine (?_ : jJ X g ((r, S') : Int32 × MS) (mw g q S) 0 0 0 [(0, .ref (q 0)), (1, .int a1), (2, .int a2), (3, .int a3)] [] (f_X12_ties S a1 a2 a3)) h
  unfold f_X12_ties
  refine r_aload_n (pc := 0) C dX12_ties_0 0 rfl ?_
  refine r_iload_n (pc := 1) C dX12_ties_1 1 rfl ?_
  refine r_iload_n (pc := 2) C dX12_ties_2 2 rfl ?_
  refine r_iload_n (pc := 3) C dX12_ties_3 3 rfl ?_
  refine r_cVpz (As := [.int a1, .int a2, .int a3]) (st := []) (pc := 4) C (fun _ h => c_X12_canAsk h) kY_X12_canAsk kw_7_102 kw_0_71 kw_7_100 rfl ⟨Nat.le_of_ble_eq_true rfl, Nat.le_of_ble_eq_true rfl⟩ rfl rfl ⟨Nat.zero_le _, Nat.zero_le _⟩ 0 rfl rfl rfl (Nat.le_of_ble_eq_true rfl) dX12_ties_4 (fun x1 => ?_)
  refine r_ifb_ne 13 (pc := 7) C dX12_ties_7 (by decide) ?_ ?_
  · refine r_aload_n (pc := 13) C dX12_ties_13 0 rfl ?_
    refine r_iload_n (pc := 14) C dX12_ties_14 1 rfl ?_
    refine r_iload_n (pc := 15) C dX12_ties_15 2 rfl ?_
    refine r_iload_n (pc := 16) C dX12_ties_16 3 rfl ?_
    refine r_cVwv (As := [.int a1, .int a2, .int a3]) (st := []) (wf := mw g q) (pc := 17) C (fun _ h => c_X12_layChain h) kY_X12_layChain kw_7_106 kw_0_72 kw_7_104 rfl ⟨Nat.le_of_ble_eq_true rfl, Nat.le_of_ble_eq_true rfl⟩ rfl rfl ⟨Nat.zero_le _, Nat.zero_le _⟩ 0 rfl rfl rfl (Nat.le_of_ble_eq_true rfl) dX12_ties_17 (fun S2 => ?_)
    refine r_iconst (pc := 20) C dX12_ties_20 (v := 0) (by decide) ?_
    refine r_istore (pc := 21) C dX12_ties_21 (lv' := [(0, .ref (q 0)), (1, .int a1), (2, .int a2), (3, .int a3), (4, .int 0)]) (by decide) [1, 2, 3, 4, 0] rfl ?_
    refine r_iconst (pc := 23) C dX12_ties_23 (v := 1) (by decide) ?_
    refine r_istore (pc := 24) C dX12_ties_24 (lv' := [(0, .ref (q 0)), (1, .int a1), (2, .int a2), (3, .int a3), (4, .int 0), (5, .int 1)]) (by decide) [1, 2, 3, 4, 5, 0] rfl ?_
    refine r_sub (lv' := [(0, .ref (q 0)), (4, .int 0), (5, .int 1)]) [0, 4, 5] rfl ?_
    refine l_X12_ties_26 C hR _ (fun x17 => ?_) FU 0 1
    refine r_iload (pc := 68) C dX12_ties_68 0 rfl ?_
    exact r_retWI (wf := mw g q) hR (pc := 70) dX12_ties_70
  · refine r_bipush (pc := 10) C dX12_ties_10 (v := (-2)) (by decide) ?_
    exact r_retWI (wf := mw g q) hR (pc := 12) dX12_ties_12
set_option maxRecDepth 100000 in
theorem w_X12_ties {S : MS} {a1 : Int32} {a2 : Int32} {a3 : Int32} {r : Int32} {S' : MS} (h : f_X12_ties S a1 a2 a3 = some (r, S')) : fI [20] [18, 19] S S' := by
  have hS : fI [20] [18, 19] S S := fI_rf
  refine (?_ : jf (fI [20] [18, 19] S) Prod.snd (f_X12_ties S a1 a2 a3)) _ h
  unfold f_X12_ties
  refine f_bp (fun x1 => ?_)
  refine f_ite ?_ ?_
  · refine f_bpS (fun _ h => fI_tr hS (w_X12_layChain h) (by decide) (by decide)) (fun S2 hS2 => ?_)
    refine v_X12_ties_26 hS2 (fun x17 hS2 => ?_) FU 0 1 hS2
    exact f_some hS2
  · exact f_some hS
abbrev rm_X12_endOf : Room := { frames := 3, cells := 0, slots := 0, locals := 63 }
theorem kY_X12_endOf : kY yX12_endOf cX12_endOf 4 (some .int) 2 := ⟨kw_1_13, kw_7_151, by decide, by decide, by decide +kernel⟩
def L_X12_endOf_4 (S : MS) (c1 : Int32) (k5 : Option (Int32)) : Nat → Int32 → Option (Int32) := lo1 fun rec3 x2 =>
  (if (S.1 20) ≤ x2 then
  k5
 else
  bp (f_X12_value S x2) (fun x7 =>
  bp (f_X12_value S c1) (fun x8 =>
  (if x7 = x8 then
  lt (x2 + 1) fun x9 =>
  rec3 x9
 else
  chk x2 60 (
  bp (f_X12_of S (S.2 19 x2.toNatClampNeg) 3) (fun x10 =>
  some x10))))))
set_option maxRecDepth 100000 in
set_option maxHeartbeats 4000000 in
theorem l_X12_endOf_4 {X : KX} {g : KG} {q : Nat → Nat} {res : Int32} {S : MS} (C : kC X g cX12_endOf "MarkChainsModel" rm_X12_endOf 4) (hR : ∀ (pc : Nat) (lv : List (Nat × Value)), decode cX12_endOf pc = .ok (.ireturn, 1) → jW X g (mw g q S) 0 0 pc lv [.int res]) (c1 : Int32) (c2 : Int32) (k5 : Option (Int32)) (hk6 : jJ X g res (mw g q S) 0 0 43 [(2, .int c2)] [] k5) : ∀ (n : Nat) (x2 : Int32), jJ X g res (mw g q S) 0 0 4 [(0, .ref (q 0)), (1, .int c1), (2, .int c2), (3, .int x2)] [] (L_X12_endOf_4 S c1 k5 n x2) := by
  refine r_lo1 (fun x2 => mw g q S) (fun x2 => [(0, .ref (q 0)), (1, .int c1), (2, .int c2), (3, .int x2)]) (fun rec3 ih4 x2 => ?_)
  refine r_iload_n (pc := 4) C dX12_endOf_4 3 rfl ?_
  refine r_aload_n (pc := 5) C dX12_endOf_5 0 rfl ?_
  refine mg_links (pc := 6) C dX12_endOf_6 ?_
  refine r_icmp_ge 43 (pc := 9) C dX12_endOf_9 (by decide) ?_ ?_
  · refine r_sub (lv' := [(2, .int c2)]) [2] rfl ?_
    exact hk6
  · refine r_aload_n (pc := 12) C dX12_endOf_12 0 rfl ?_
    refine r_iload_n (pc := 13) C dX12_endOf_13 3 rfl ?_
    refine r_cVpi (As := [.int x2]) (st := []) (pc := 14) C (fun _ h => c_X12_value h) kY_X12_value kw_7_130 kw_0_77 kw_7_128 rfl ⟨Nat.le_of_ble_eq_true rfl, Nat.le_of_ble_eq_true rfl⟩ rfl rfl ⟨Nat.zero_le _, Nat.zero_le _⟩ 0 rfl rfl rfl (Nat.le_of_ble_eq_true rfl) dX12_endOf_14 (fun x7 => ?_)
    refine r_aload_n (pc := 17) C dX12_endOf_17 0 rfl ?_
    refine r_iload_n (pc := 18) C dX12_endOf_18 1 rfl ?_
    refine r_cVpi (As := [.int c1]) (st := [.int x7]) (pc := 19) C (fun _ h => c_X12_value h) kY_X12_value kw_7_130 kw_0_77 kw_7_128 rfl ⟨Nat.le_of_ble_eq_true rfl, Nat.le_of_ble_eq_true rfl⟩ rfl rfl ⟨Nat.zero_le _, Nat.zero_le _⟩ 0 rfl rfl rfl (Nat.le_of_ble_eq_true rfl) dX12_endOf_19 (fun x8 => ?_)
    refine r_icmp_eq 37 (pc := 22) C dX12_endOf_22 (by decide) ?_ ?_
    · refine r_iinc (pc := 37) C dX12_endOf_37 (v := 1) (lv' := fun x9 => [(0, .ref (q 0)), (1, .int c1), (2, .int c2), (3, .int x9)]) 3 rfl (by decide) (by decide) [1, 2, 3, 0] (fun _ => rfl) (fun x9 => ?_)
      refine r_goto 4 (pc := 40) C dX12_endOf_40 (by decide) ?_
      exact ih4 x9
    · refine r_aload_n (pc := 25) C dX12_endOf_25 0 rfl ?_
      refine r_aload_n (pc := 26) C dX12_endOf_26 0 rfl ?_
      refine mg_link (pc := 27) C dX12_endOf_27 ?_
      refine r_iload_n (pc := 30) C dX12_endOf_30 3 rfl ?_
      refine ml_link (pc := 31) C dX12_endOf_31 ?_
      refine r_iconst (pc := 32) C dX12_endOf_32 (v := 3) (by decide) ?_
      refine r_cVpi (As := [.int (S.2 19 x2.toNatClampNeg), .int 3]) (st := []) (pc := 33) C (fun _ h => c_X12_of h) kY_X12_of kw_7_27 kw_0_64 kw_7_25 rfl ⟨Nat.le_of_ble_eq_true rfl, Nat.le_of_ble_eq_true rfl⟩ rfl rfl ⟨Nat.zero_le _, Nat.zero_le _⟩ 0 rfl rfl rfl (Nat.le_of_ble_eq_true rfl) dX12_endOf_33 (fun x10 => ?_)
      exact r_retPI hR (pc := 36) dX12_endOf_36
def f_X12_endOf (S : MS) (a1 : Int32) (a2 : Int32) : Option (Int32) :=
  lt (a1 + 1) fun x1 =>
  L_X12_endOf_4 S a1 (some a2) FU x1
set_option maxRecDepth 100000 in
set_option maxHeartbeats 4000000 in
theorem c_X12_endOf {g : KG} {q : Nat → Nat} {S : MS} {a1 : Int32} {a2 : Int32} {r : Int32} (h : f_X12_endOf S a1 a2 = some r) : ∀ l, kM l yX12_endOf cX12_endOf 4 (some .int) rm_X12_endOf g [.ref (q 0), .int a1, .int a2] (mw g q S) (mw g q S) (some (.int r)) 0 0 := by
  refine k_open_i (own := "MarkChainsModel") (by decide) rfl (Nat.le_of_ble_eq_true rfl) (fun X C hR => ?_)
  refine (?_ : jJ X g (r : Int32) (mw g q S) 0 0 0 [(0, .ref (q 0)), (1, .int a1), (2, .int a2)] [] (f_X12_endOf S a1 a2)) h
  unfold f_X12_endOf
  refine r_iload_n (pc := 0) C dX12_endOf_0 1 rfl ?_
  refine r_iconst (pc := 1) C dX12_endOf_1 (v := 1) (by decide) ?_
  refine r_iadd (pc := 2) C dX12_endOf_2 ?_
  refine r_istoreV_n (pc := 3) C dX12_endOf_3 (lv' := fun x1 => [(0, .ref (q 0)), (1, .int a1), (2, .int a2), (3, .int x1)]) (by decide) [1, 2, 3, 0] (fun _ => rfl) (fun x1 => ?_)
  refine l_X12_endOf_4 C hR a1 a2 _ (?_) FU x1
  refine r_iload_n (pc := 43) C dX12_endOf_43 0 rfl ?_
  exact r_retPI hR (pc := 44) dX12_endOf_44
abbrev rm_X12_held : Room := { frames := 6, cells := 0, slots := 0, locals := 136 }
theorem kY_X12_held : kY yX12_held cX12_held 10 (some .int) 4 := ⟨kw_1_13, kw_7_147, by decide, by decide, by decide +kernel⟩
def L_X12_held_39 (S : MS) (c3 : Int32) (c4 : Int32) (k9 : Int32 → Option (Int32 × MS)) : Nat → Int32 → Int32 → Int32 → Option (Int32 × MS) := lo3 fun rec7 x4 x5 x6 =>
  (if (S.1 20) ≤ x6 then
  k9 x4
 else
  chk x6 60 (
  bp (f_X12_of S (S.2 19 x6.toNatClampNeg) 1) (fun x11 =>
  (if x11 = c3 then
  chk x6 60 (
  bp (f_X12_of S (S.2 19 x6.toNatClampNeg) 3) (fun x12 =>
  jn1 (fun (x13 : Int32) =>
  bp (f_X12_endOf S x6 c4) (fun x14 =>
  (if x13 < x14 then
  lt (x4 + (x14 - x13)) fun x15 =>
  lt (x6 + 1) fun x16 =>
  rec7 x15 x14 x16
 else
  lt (x6 + 1) fun x17 =>
  rec7 x4 x5 x17))) (fun k18 =>
  (if x12 ≤ x5 then
  k18 x5
 else
  chk x6 60 (
  bp (f_X12_of S (S.2 19 x6.toNatClampNeg) 3) (fun x20 =>
  k18 x20))))))
 else
  lt (x6 + 1) fun x21 =>
  rec7 x4 x5 x21))))
set_option maxRecDepth 100000 in
set_option maxHeartbeats 4000000 in
theorem l_X12_held_39 {X : KX} {g : KG} {q : Nat → Nat} {res : Int32 × MS} {S : MS} (C : kC X g cX12_held "MarkChainsModel" rm_X12_held 10) (hR : ∀ (pc : Nat) (lv : List (Nat × Value)), decode cX12_held pc = .ok (.ireturn, 1) → jW X g (mw g q res.2) 0 0 pc lv [.int res.1]) (c3 : Int32) (c4 : Int32) (k9 : Int32 → Option (Int32 × MS)) (hk10 : ∀ (x22 : Int32), jJ X g res (mw g q S) 0 0 143 [(5, .int x22)] [] (k9 x22)) : ∀ (n : Nat) (x4 : Int32) (x5 : Int32) (x6 : Int32), jJ X g res (mw g q S) 0 0 39 [(0, .ref (q 0)), (3, .int c3), (4, .int c4), (5, .int x4), (6, .int x5), (7, .int x6)] [] (L_X12_held_39 S c3 c4 k9 n x4 x5 x6) := by
  refine r_lo3 (fun x4 x5 x6 => mw g q S) (fun x4 x5 x6 => [(0, .ref (q 0)), (3, .int c3), (4, .int c4), (5, .int x4), (6, .int x5), (7, .int x6)]) (fun rec7 ih8 x4 x5 x6 => ?_)
  refine r_iload (pc := 39) C dX12_held_39 5 rfl ?_
  refine r_aload_n (pc := 41) C dX12_held_41 0 rfl ?_
  refine mg_links (pc := 42) C dX12_held_42 ?_
  refine r_icmp_ge 143 (pc := 45) C dX12_held_45 (by decide) ?_ ?_
  · refine r_sub (lv' := [(5, .int x4)]) [3] rfl ?_
    exact hk10 x4
  · refine r_aload_n (pc := 48) C dX12_held_48 0 rfl ?_
    refine r_aload_n (pc := 49) C dX12_held_49 0 rfl ?_
    refine mg_link (pc := 50) C dX12_held_50 ?_
    refine r_iload (pc := 53) C dX12_held_53 5 rfl ?_
    refine ml_link (pc := 55) C dX12_held_55 ?_
    refine r_iconst (pc := 56) C dX12_held_56 (v := 1) (by decide) ?_
    refine r_cVpi (As := [.int (S.2 19 x6.toNatClampNeg), .int 1]) (st := []) (pc := 57) C (fun _ h => c_X12_of h) kY_X12_of kw_7_27 kw_0_64 kw_7_25 rfl ⟨Nat.le_of_ble_eq_true rfl, Nat.le_of_ble_eq_true rfl⟩ rfl rfl ⟨Nat.zero_le _, Nat.zero_le _⟩ 0 rfl rfl rfl (Nat.le_of_ble_eq_true rfl) dX12_held_57 (fun x11 => ?_)
    refine r_iload_n (pc := 60) C dX12_held_60 1 rfl ?_
    refine r_icmp_eq 67 (pc := 61) C dX12_held_61 (by decide) ?_ ?_
    · refine r_aload_n (pc := 67) C dX12_held_67 0 rfl ?_
      refine r_aload_n (pc := 68) C dX12_held_68 0 rfl ?_
      refine mg_link (pc := 69) C dX12_held_69 ?_
      refine r_iload (pc := 72) C dX12_held_72 5 rfl ?_
      refine ml_link (pc := 74) C dX12_held_74 ?_
      refine r_iconst (pc := 75) C dX12_held_75 (v := 3) (by decide) ?_
      refine r_cVpi (As := [.int (S.2 19 x6.toNatClampNeg), .int 3]) (st := []) (pc := 76) C (fun _ h => c_X12_of h) kY_X12_of kw_7_27 kw_0_64 kw_7_25 rfl ⟨Nat.le_of_ble_eq_true rfl, Nat.le_of_ble_eq_true rfl⟩ rfl rfl ⟨Nat.zero_le _, Nat.zero_le _⟩ 0 rfl rfl rfl (Nat.le_of_ble_eq_true rfl) dX12_held_76 (fun x12 => ?_)
      refine r_iload (pc := 79) C dX12_held_79 4 rfl ?_
      refine r_jn1 101 (fun (x13 : Int32) => mw g q S) (fun (x13 : Int32) => [(0, .ref (q 0)), (3, .int c3), (4, .int c4), (5, .int x4), (6, .int x5), (7, .int x6)]) (fun (x13 : Int32) => [.int x13]) (fun x13 => ?_) (fun k18 hk19 => ?_)
      · refine r_istore (pc := 101) C dX12_held_101 (lv' := [(0, .ref (q 0)), (3, .int c3), (4, .int c4), (5, .int x4), (6, .int x5), (7, .int x6), (8, .int x13)]) (by decide) [1, 2, 3, 4, 5, 6, 0] rfl ?_
        refine r_aload_n (pc := 103) C dX12_held_103 0 rfl ?_
        refine r_iload (pc := 104) C dX12_held_104 5 rfl ?_
        refine r_iload (pc := 106) C dX12_held_106 2 rfl ?_
        refine r_cVpi (As := [.int x6, .int c4]) (st := []) (pc := 108) C (fun _ h => c_X12_endOf h) kY_X12_endOf kw_7_150 kw_0_79 kw_7_148 rfl ⟨Nat.le_of_ble_eq_true rfl, Nat.le_of_ble_eq_true rfl⟩ rfl rfl ⟨Nat.zero_le _, Nat.zero_le _⟩ 0 rfl rfl rfl (Nat.le_of_ble_eq_true rfl) dX12_held_108 (fun x14 => ?_)
        refine r_istore (pc := 111) C dX12_held_111 (lv' := [(0, .ref (q 0)), (3, .int c3), (4, .int c4), (5, .int x4), (6, .int x5), (7, .int x6), (8, .int x13), (9, .int x14)]) (by decide) [1, 2, 3, 4, 5, 6, 7, 0] rfl ?_
        refine r_iload (pc := 113) C dX12_held_113 7 rfl ?_
        refine r_iload (pc := 115) C dX12_held_115 6 rfl ?_
        refine r_icmp_gt 123 (pc := 117) C dX12_held_117 (by decide) ?_ ?_
        · refine r_iload (pc := 123) C dX12_held_123 3 rfl ?_
          refine r_iload (pc := 125) C dX12_held_125 7 rfl ?_
          refine r_iload (pc := 127) C dX12_held_127 6 rfl ?_
          refine r_isub (pc := 129) C dX12_held_129 ?_
          refine r_iadd (pc := 130) C dX12_held_130 ?_
          refine r_istoreV (pc := 131) C dX12_held_131 (lv' := fun x15 => [(0, .ref (q 0)), (3, .int c3), (4, .int c4), (5, .int x15), (6, .int x5), (7, .int x6), (8, .int x13), (9, .int x14)]) (by decide) [1, 2, 3, 0, 4, 5, 6, 7] (fun _ => rfl) (fun x15 => ?_)
          refine r_iload (pc := 133) C dX12_held_133 7 rfl ?_
          refine r_istore (pc := 135) C dX12_held_135 (lv' := [(0, .ref (q 0)), (3, .int c3), (4, .int c4), (5, .int x15), (6, .int x14), (7, .int x6), (8, .int x13), (9, .int x14)]) (by decide) [1, 2, 3, 4, 0, 5, 6, 7] rfl ?_
          refine r_iinc (pc := 137) C dX12_held_137 (v := 1) (lv' := fun x16 => [(0, .ref (q 0)), (3, .int c3), (4, .int c4), (5, .int x15), (6, .int x14), (7, .int x16), (8, .int x13), (9, .int x14)]) 5 rfl (by decide) (by decide) [1, 2, 3, 4, 5, 0, 6, 7] (fun _ => rfl) (fun x16 => ?_)
          refine r_goto 39 (pc := 140) C dX12_held_140 (by decide) ?_
          refine r_sub (lv' := [(0, .ref (q 0)), (3, .int c3), (4, .int c4), (5, .int x15), (6, .int x14), (7, .int x16)]) [0, 1, 2, 3, 4, 5] rfl ?_
          exact ih8 x15 x14 x16
        · refine r_goto 137 (pc := 120) C dX12_held_120 (by decide) ?_
          refine r_iinc (pc := 137) C dX12_held_137 (v := 1) (lv' := fun x17 => [(0, .ref (q 0)), (3, .int c3), (4, .int c4), (5, .int x4), (6, .int x5), (7, .int x17), (8, .int x13), (9, .int x14)]) 5 rfl (by decide) (by decide) [1, 2, 3, 4, 5, 0, 6, 7] (fun _ => rfl) (fun x17 => ?_)
          refine r_goto 39 (pc := 140) C dX12_held_140 (by decide) ?_
          refine r_sub (lv' := [(0, .ref (q 0)), (3, .int c3), (4, .int c4), (5, .int x4), (6, .int x5), (7, .int x17)]) [0, 1, 2, 3, 4, 5] rfl ?_
          exact ih8 x4 x5 x17
      · refine r_icmp_le 99 (pc := 81) C dX12_held_81 (by decide) ?_ ?_
        · refine r_iload (pc := 99) C dX12_held_99 4 rfl ?_
          exact hk19 x5
        · refine r_aload_n (pc := 84) C dX12_held_84 0 rfl ?_
          refine r_aload_n (pc := 85) C dX12_held_85 0 rfl ?_
          refine mg_link (pc := 86) C dX12_held_86 ?_
          refine r_iload (pc := 89) C dX12_held_89 5 rfl ?_
          refine ml_link (pc := 91) C dX12_held_91 ?_
          refine r_iconst (pc := 92) C dX12_held_92 (v := 3) (by decide) ?_
          refine r_cVpi (As := [.int (S.2 19 x6.toNatClampNeg), .int 3]) (st := []) (pc := 93) C (fun _ h => c_X12_of h) kY_X12_of kw_7_27 kw_0_64 kw_7_25 rfl ⟨Nat.le_of_ble_eq_true rfl, Nat.le_of_ble_eq_true rfl⟩ rfl rfl ⟨Nat.zero_le _, Nat.zero_le _⟩ 0 rfl rfl rfl (Nat.le_of_ble_eq_true rfl) dX12_held_93 (fun x20 => ?_)
          refine r_goto 101 (pc := 96) C dX12_held_96 (by decide) ?_
          exact hk19 x20
    · refine r_goto 137 (pc := 64) C dX12_held_64 (by decide) ?_
      refine r_iinc (pc := 137) C dX12_held_137 (v := 1) (lv' := fun x21 => [(0, .ref (q 0)), (3, .int c3), (4, .int c4), (5, .int x4), (6, .int x5), (7, .int x21)]) 5 rfl (by decide) (by decide) [1, 2, 3, 4, 5, 0] (fun _ => rfl) (fun x21 => ?_)
      refine r_goto 39 (pc := 140) C dX12_held_140 (by decide) ?_
      exact ih8 x4 x5 x21
set_option maxRecDepth 100000 in
theorem v_X12_held_39 {S0 : MS} {S : MS} {c3 : Int32} {c4 : Int32} (hS : (fI [20] [18, 19] S0) S) {k9 : Int32 → Option (Int32 × MS)} (hk10 : ∀ (x22 : Int32), (fI [20] [18, 19] S0) S → jf (fI [20] [18, 19] S0) Prod.snd (k9 x22)) : ∀ (n : Nat) (x4 : Int32) (x5 : Int32) (x6 : Int32), (fI [20] [18, 19] S0) S → jf (fI [20] [18, 19] S0) Prod.snd (L_X12_held_39 S c3 c4 k9 n x4 x5 x6) := by
  refine f_lo3 (I := (fI [20] [18, 19] S0)) (fun x4 x5 x6 => S) (fun rec7 ih8 x4 x5 x6 hS => ?_)
  refine f_ite ?_ ?_
  · exact hk10 x4 hS
  · refine f_chk ?_
    refine f_bp (fun x11 => ?_)
    refine f_ite ?_ ?_
    · refine f_chk ?_
      refine f_bp (fun x12 => ?_)
      refine f_jm1 hS (fun x13 hS => ?_) (fun k18 hk19 => ?_)
      · refine f_bp (fun x14 => ?_)
        refine f_ite ?_ ?_
        · refine f_lt (fun x15 => ?_)
          refine f_lt (fun x16 => ?_)
          exact ih8 x15 x14 x16 hS
        · refine f_lt (fun x17 => ?_)
          exact ih8 x4 x5 x17 hS
      · refine f_ite ?_ ?_
        · exact hk19 x5 hS
        · refine f_chk ?_
          refine f_bp (fun x20 => ?_)
          exact hk19 x20 hS
    · refine f_lt (fun x21 => ?_)
      exact ih8 x4 x5 x21 hS
def f_X12_held (S : MS) (a1 : Int32) (a2 : Int32) (a3 : Int32) (a4 : Int32) : Option (Int32 × MS) :=
  bp (f_X12_canAsk S a1 a2 a4) (fun x1 =>
  (if x1 = true then
  bp (f_X12_isAthlete S a3) (fun x2 =>
  (if x2 = true then
  bp (f_X12_layChain S a1 a2 a4) (fun S3 =>
  L_X12_held_39 S3 a3 a4 (fun x23 =>
  some (x23, S3)) FU 0 0 0)
 else
  some ((-2), S)))
 else
  some ((-2), S)))
set_option maxRecDepth 100000 in
set_option maxHeartbeats 4000000 in
theorem c_X12_held {g : KG} {q : Nat → Nat} {S : MS} {a1 : Int32} {a2 : Int32} {a3 : Int32} {a4 : Int32} {r : Int32} {S' : MS} (h : f_X12_held S a1 a2 a3 a4 = some (r, S')) : ∀ l, kM l yX12_held cX12_held 10 (some .int) rm_X12_held g [.ref (q 0), .int a1, .int a2, .int a3, .int a4] (mw g q S) (mw g q S') (some (.int r)) 0 0 := by
  refine k_open_i (own := "MarkChainsModel") (by decide) rfl (Nat.le_of_ble_eq_true rfl) (fun X C hR => ?_)
  refine (?_ : jJ X g ((r, S') : Int32 × MS) (mw g q S) 0 0 0 [(0, .ref (q 0)), (1, .int a1), (2, .int a2), (3, .int a3), (4, .int a4)] [] (f_X12_held S a1 a2 a3 a4)) h
  unfold f_X12_held
  refine r_aload_n (pc := 0) C dX12_held_0 0 rfl ?_
  refine r_iload_n (pc := 1) C dX12_held_1 1 rfl ?_
  refine r_iload_n (pc := 2) C dX12_held_2 2 rfl ?_
  refine r_iload (pc := 3) C dX12_held_3 4 rfl ?_
  refine r_cVpz (As := [.int a1, .int a2, .int a4]) (st := []) (pc := 5) C (fun _ h => c_X12_canAsk h) kY_X12_canAsk kw_7_102 kw_0_71 kw_7_100 rfl ⟨Nat.le_of_ble_eq_true rfl, Nat.le_of_ble_eq_true rfl⟩ rfl rfl ⟨Nat.zero_le _, Nat.zero_le _⟩ 0 rfl rfl rfl (Nat.le_of_ble_eq_true rfl) dX12_held_5 (fun x1 => ?_)
  refine r_ifb_eq 19 (pc := 8) C dX12_held_8 (by decide) ?_ ?_
  · refine r_bipush (pc := 19) C dX12_held_19 (v := (-2)) (by decide) ?_
    exact r_retWI (wf := mw g q) hR (pc := 21) dX12_held_21
  · refine r_aload_n (pc := 11) C dX12_held_11 0 rfl ?_
    refine r_iload_n (pc := 12) C dX12_held_12 3 rfl ?_
    refine r_cVpz (As := [.int a3]) (st := []) (pc := 13) C (fun _ h => c_X12_isAthlete h) kY_X12_isAthlete kw_7_75 kw_0_69 kw_7_73 rfl ⟨Nat.le_of_ble_eq_true rfl, Nat.le_of_ble_eq_true rfl⟩ rfl rfl ⟨Nat.zero_le _, Nat.zero_le _⟩ 0 rfl rfl rfl (Nat.le_of_ble_eq_true rfl) dX12_held_13 (fun x2 => ?_)
    refine r_ifb_ne 22 (pc := 16) C dX12_held_16 (by decide) ?_ ?_
    · refine r_aload_n (pc := 22) C dX12_held_22 0 rfl ?_
      refine r_iload_n (pc := 23) C dX12_held_23 1 rfl ?_
      refine r_iload_n (pc := 24) C dX12_held_24 2 rfl ?_
      refine r_iload (pc := 25) C dX12_held_25 4 rfl ?_
      refine r_cVwv (As := [.int a1, .int a2, .int a4]) (st := []) (wf := mw g q) (pc := 27) C (fun _ h => c_X12_layChain h) kY_X12_layChain kw_7_106 kw_0_72 kw_7_104 rfl ⟨Nat.le_of_ble_eq_true rfl, Nat.le_of_ble_eq_true rfl⟩ rfl rfl ⟨Nat.zero_le _, Nat.zero_le _⟩ 0 rfl rfl rfl (Nat.le_of_ble_eq_true rfl) dX12_held_27 (fun S3 => ?_)
      refine r_iconst (pc := 30) C dX12_held_30 (v := 0) (by decide) ?_
      refine r_istore (pc := 31) C dX12_held_31 (lv' := [(0, .ref (q 0)), (1, .int a1), (2, .int a2), (3, .int a3), (4, .int a4), (5, .int 0)]) (by decide) [1, 2, 3, 4, 5, 0] rfl ?_
      refine r_iconst (pc := 33) C dX12_held_33 (v := 0) (by decide) ?_
      refine r_istore (pc := 34) C dX12_held_34 (lv' := [(0, .ref (q 0)), (1, .int a1), (2, .int a2), (3, .int a3), (4, .int a4), (5, .int 0), (6, .int 0)]) (by decide) [1, 2, 3, 4, 5, 6, 0] rfl ?_
      refine r_iconst (pc := 36) C dX12_held_36 (v := 0) (by decide) ?_
      refine r_istore (pc := 37) C dX12_held_37 (lv' := [(0, .ref (q 0)), (1, .int a1), (2, .int a2), (3, .int a3), (4, .int a4), (5, .int 0), (6, .int 0), (7, .int 0)]) (by decide) [1, 2, 3, 4, 5, 6, 7, 0] rfl ?_
      refine r_sub (lv' := [(0, .ref (q 0)), (3, .int a3), (4, .int a4), (5, .int 0), (6, .int 0), (7, .int 0)]) [0, 3, 4, 5, 6, 7] rfl ?_
      refine l_X12_held_39 C hR a3 a4 _ (fun x23 => ?_) FU 0 0 0
      refine r_iload (pc := 143) C dX12_held_143 0 rfl ?_
      exact r_retWI (wf := mw g q) hR (pc := 145) dX12_held_145
    · refine r_bipush (pc := 19) C dX12_held_19 (v := (-2)) (by decide) ?_
      exact r_retWI (wf := mw g q) hR (pc := 21) dX12_held_21
set_option maxRecDepth 100000 in
theorem w_X12_held {S : MS} {a1 : Int32} {a2 : Int32} {a3 : Int32} {a4 : Int32} {r : Int32} {S' : MS} (h : f_X12_held S a1 a2 a3 a4 = some (r, S')) : fI [20] [18, 19] S S' := by
  have hS : fI [20] [18, 19] S S := fI_rf
  refine (?_ : jf (fI [20] [18, 19] S) Prod.snd (f_X12_held S a1 a2 a3 a4)) _ h
  unfold f_X12_held
  refine f_bp (fun x1 => ?_)
  refine f_ite ?_ ?_
  · refine f_bp (fun x2 => ?_)
    refine f_ite ?_ ?_
    · refine f_bpS (fun _ h => fI_tr hS (w_X12_layChain h) (by decide) (by decide)) (fun S3 hS3 => ?_)
      refine v_X12_held_39 hS3 (fun x23 hS3 => ?_) FU 0 0 0 hS3
      exact f_some hS3
    · exact f_some hS
  · exact f_some hS
abbrev rm_X12_stood : Room := { frames := 6, cells := 0, slots := 0, locals := 136 }
theorem kY_X12_stood : kY yX12_stood cX12_stood 9 (some .int) 4 := ⟨kw_1_13, kw_7_155, by decide, by decide, by decide +kernel⟩
def L_X12_stood_39 (S : MS) (c3 : Int32) (k9 : Int32 → Int32 → Option (Int32 × MS)) : Nat → Int32 → Int32 → Int32 → Option (Int32 × MS) := lo3 fun rec7 x4 x5 x6 =>
  (if (S.1 20) ≤ x6 then
  k9 x4 x5
 else
  jn0 (bp (f_X12_endOf S x6 c3) (fun x11 =>
  chk x6 60 (
  bp (f_X12_of S (S.2 19 x6.toNatClampNeg) 3) (fun x12 =>
  lt (x11 - x12) fun x13 =>
  jn0 (chk x6 60 (
  lt (S.2 19 x6.toNatClampNeg) fun x14 =>
  lt (x6 + 1) fun x15 =>
  rec7 x14 x13 x15)) (fun k16 =>
  (if x4 = (-1) then
  k16
 else
  (if x5 < x13 then
  k16
 else
  lt (x6 + 1) fun x18 =>
  rec7 x4 x5 x18))))))) (fun k19 =>
  (if x6 ≤ 0 then
  k19
 else
  bp (f_X12_value S x6) (fun x21 =>
  bp (f_X12_value S (x6 - 1)) (fun x22 =>
  (if x21 = x22 then
  lt (x6 + 1) fun x23 =>
  rec7 x4 x5 x23
 else
  k19))))))
set_option maxRecDepth 100000 in
set_option maxHeartbeats 4000000 in
theorem l_X12_stood_39 {X : KX} {g : KG} {q : Nat → Nat} {res : Int32 × MS} {S : MS} (C : kC X g cX12_stood "MarkChainsModel" rm_X12_stood 9) (hR : ∀ (pc : Nat) (lv : List (Nat × Value)), decode cX12_stood pc = .ok (.ireturn, 1) → jW X g (mw g q res.2) 0 0 pc lv [.int res.1]) (c3 : Int32) (c4 : Int32) (k9 : Int32 → Int32 → Option (Int32 × MS)) (hk10 : ∀ (x24 : Int32) (x25 : Int32), jJ X g res (mw g q S) 0 0 130 [(4, .int c4), (5, .int x24), (6, .int x25)] [] (k9 x24 x25)) : ∀ (n : Nat) (x4 : Int32) (x5 : Int32) (x6 : Int32), jJ X g res (mw g q S) 0 0 39 [(0, .ref (q 0)), (3, .int c3), (4, .int c4), (5, .int x4), (6, .int x5), (7, .int x6)] [] (L_X12_stood_39 S c3 k9 n x4 x5 x6) := by
  refine r_lo3 (fun x4 x5 x6 => mw g q S) (fun x4 x5 x6 => [(0, .ref (q 0)), (3, .int c3), (4, .int c4), (5, .int x4), (6, .int x5), (7, .int x6)]) (fun rec7 ih8 x4 x5 x6 => ?_)
  refine r_iload (pc := 39) C dX12_stood_39 5 rfl ?_
  refine r_aload_n (pc := 41) C dX12_stood_41 0 rfl ?_
  refine mg_links (pc := 42) C dX12_stood_42 ?_
  refine r_icmp_ge 130 (pc := 45) C dX12_stood_45 (by decide) ?_ ?_
  · refine r_sub (lv' := [(4, .int c4), (5, .int x4), (6, .int x5)]) [2, 3, 4] rfl ?_
    exact hk10 x4 x5
  · refine r_iload (pc := 48) C dX12_stood_48 5 rfl ?_
    refine r_jn0 73 (mw g q S) ([(0, .ref (q 0)), (3, .int c3), (4, .int c4), (5, .int x4), (6, .int x5), (7, .int x6)]) ([]) ?_ (fun k19 hk20 => ?_)
    · refine r_aload_n (pc := 73) C dX12_stood_73 0 rfl ?_
      refine r_iload (pc := 74) C dX12_stood_74 5 rfl ?_
      refine r_iload_n (pc := 76) C dX12_stood_76 1 rfl ?_
      refine r_cVpi (As := [.int x6, .int c3]) (st := []) (pc := 77) C (fun _ h => c_X12_endOf h) kY_X12_endOf kw_7_150 kw_0_79 kw_7_148 rfl ⟨Nat.le_of_ble_eq_true rfl, Nat.le_of_ble_eq_true rfl⟩ rfl rfl ⟨Nat.zero_le _, Nat.zero_le _⟩ 0 rfl rfl rfl (Nat.le_of_ble_eq_true rfl) dX12_stood_77 (fun x11 => ?_)
      refine r_aload_n (pc := 80) C dX12_stood_80 0 rfl ?_
      refine r_aload_n (pc := 81) C dX12_stood_81 0 rfl ?_
      refine mg_link (pc := 82) C dX12_stood_82 ?_
      refine r_iload (pc := 85) C dX12_stood_85 5 rfl ?_
      refine ml_link (pc := 87) C dX12_stood_87 ?_
      refine r_iconst (pc := 88) C dX12_stood_88 (v := 3) (by decide) ?_
      refine r_cVpi (As := [.int (S.2 19 x6.toNatClampNeg), .int 3]) (st := [.int x11]) (pc := 89) C (fun _ h => c_X12_of h) kY_X12_of kw_7_27 kw_0_64 kw_7_25 rfl ⟨Nat.le_of_ble_eq_true rfl, Nat.le_of_ble_eq_true rfl⟩ rfl rfl ⟨Nat.zero_le _, Nat.zero_le _⟩ 0 rfl rfl rfl (Nat.le_of_ble_eq_true rfl) dX12_stood_89 (fun x12 => ?_)
      refine r_isub (pc := 92) C dX12_stood_92 ?_
      refine r_istoreV (pc := 93) C dX12_stood_93 (lv' := fun x13 => [(0, .ref (q 0)), (3, .int c3), (4, .int c4), (5, .int x4), (6, .int x5), (7, .int x6), (8, .int x13)]) (by decide) [1, 2, 3, 4, 5, 6, 0] (fun _ => rfl) (fun x13 => ?_)
      refine r_iload (pc := 95) C dX12_stood_95 3 rfl ?_
      refine r_iconst (pc := 97) C dX12_stood_97 (v := (-1)) (by decide) ?_
      refine r_jn0 111 (mw g q S) ([(0, .ref (q 0)), (3, .int c3), (4, .int c4), (7, .int x6), (8, .int x13)]) ([]) ?_ (fun k16 hk17 => ?_)
      · refine r_aload_n (pc := 111) C dX12_stood_111 0 rfl ?_
        refine mg_link (pc := 112) C dX12_stood_112 ?_
        refine r_iload (pc := 115) C dX12_stood_115 3 rfl ?_
        refine ml_link (pc := 117) C dX12_stood_117 ?_
        refine r_istoreV (pc := 118) C dX12_stood_118 (lv' := fun x14 => [(0, .ref (q 0)), (3, .int c3), (4, .int c4), (5, .int x14), (7, .int x6), (8, .int x13)]) (by decide) [1, 2, 3, 0, 4, 5] (fun _ => rfl) (fun x14 => ?_)
        refine r_iload (pc := 120) C dX12_stood_120 5 rfl ?_
        refine r_istore (pc := 122) C dX12_stood_122 (lv' := [(0, .ref (q 0)), (3, .int c3), (4, .int c4), (5, .int x14), (6, .int x13), (7, .int x6), (8, .int x13)]) (by decide) [1, 2, 3, 4, 0, 5, 6] rfl ?_
        refine r_iinc (pc := 124) C dX12_stood_124 (v := 1) (lv' := fun x15 => [(0, .ref (q 0)), (3, .int c3), (4, .int c4), (5, .int x14), (6, .int x13), (7, .int x15), (8, .int x13)]) 5 rfl (by decide) (by decide) [1, 2, 3, 4, 5, 0, 6] (fun _ => rfl) (fun x15 => ?_)
        refine r_goto 39 (pc := 127) C dX12_stood_127 (by decide) ?_
        refine r_sub (lv' := [(0, .ref (q 0)), (3, .int c3), (4, .int c4), (5, .int x14), (6, .int x13), (7, .int x15)]) [0, 1, 2, 3, 4, 5] rfl ?_
        exact ih8 x14 x13 x15
      · refine r_icmp_eq 111 (pc := 98) C dX12_stood_98 (by decide) ?_ ?_
        · refine r_sub (lv' := [(0, .ref (q 0)), (3, .int c3), (4, .int c4), (7, .int x6), (8, .int x13)]) [0, 1, 2, 5, 6] rfl ?_
          exact hk17
        · refine r_iload (pc := 101) C dX12_stood_101 6 rfl ?_
          refine r_iload (pc := 103) C dX12_stood_103 4 rfl ?_
          refine r_icmp_gt 111 (pc := 105) C dX12_stood_105 (by decide) ?_ ?_
          · refine r_sub (lv' := [(0, .ref (q 0)), (3, .int c3), (4, .int c4), (7, .int x6), (8, .int x13)]) [0, 1, 2, 5, 6] rfl ?_
            exact hk17
          · refine r_goto 124 (pc := 108) C dX12_stood_108 (by decide) ?_
            refine r_iinc (pc := 124) C dX12_stood_124 (v := 1) (lv' := fun x18 => [(0, .ref (q 0)), (3, .int c3), (4, .int c4), (5, .int x4), (6, .int x5), (7, .int x18), (8, .int x13)]) 5 rfl (by decide) (by decide) [1, 2, 3, 4, 5, 0, 6] (fun _ => rfl) (fun x18 => ?_)
            refine r_goto 39 (pc := 127) C dX12_stood_127 (by decide) ?_
            refine r_sub (lv' := [(0, .ref (q 0)), (3, .int c3), (4, .int c4), (5, .int x4), (6, .int x5), (7, .int x18)]) [0, 1, 2, 3, 4, 5] rfl ?_
            exact ih8 x4 x5 x18
    · refine r_if_le 73 (pc := 50) C dX12_stood_50 (by decide) ?_ ?_
      · exact hk20
      · refine r_aload_n (pc := 53) C dX12_stood_53 0 rfl ?_
        refine r_iload (pc := 54) C dX12_stood_54 5 rfl ?_
        refine r_cVpi (As := [.int x6]) (st := []) (pc := 56) C (fun _ h => c_X12_value h) kY_X12_value kw_7_130 kw_0_77 kw_7_128 rfl ⟨Nat.le_of_ble_eq_true rfl, Nat.le_of_ble_eq_true rfl⟩ rfl rfl ⟨Nat.zero_le _, Nat.zero_le _⟩ 0 rfl rfl rfl (Nat.le_of_ble_eq_true rfl) dX12_stood_56 (fun x21 => ?_)
        refine r_aload_n (pc := 59) C dX12_stood_59 0 rfl ?_
        refine r_iload (pc := 60) C dX12_stood_60 5 rfl ?_
        refine r_iconst (pc := 62) C dX12_stood_62 (v := 1) (by decide) ?_
        refine r_isub (pc := 63) C dX12_stood_63 ?_
        refine r_cVpi (As := [.int (x6 - 1)]) (st := [.int x21]) (pc := 64) C (fun _ h => c_X12_value h) kY_X12_value kw_7_130 kw_0_77 kw_7_128 rfl ⟨Nat.le_of_ble_eq_true rfl, Nat.le_of_ble_eq_true rfl⟩ rfl rfl ⟨Nat.zero_le _, Nat.zero_le _⟩ 0 rfl rfl rfl (Nat.le_of_ble_eq_true rfl) dX12_stood_64 (fun x22 => ?_)
        refine r_icmp_ne 73 (pc := 67) C dX12_stood_67 (by decide) ?_ ?_
        · exact hk20
        · refine r_goto 124 (pc := 70) C dX12_stood_70 (by decide) ?_
          refine r_iinc (pc := 124) C dX12_stood_124 (v := 1) (lv' := fun x23 => [(0, .ref (q 0)), (3, .int c3), (4, .int c4), (5, .int x4), (6, .int x5), (7, .int x23)]) 5 rfl (by decide) (by decide) [1, 2, 3, 4, 5, 0] (fun _ => rfl) (fun x23 => ?_)
          refine r_goto 39 (pc := 127) C dX12_stood_127 (by decide) ?_
          exact ih8 x4 x5 x23
set_option maxRecDepth 100000 in
theorem v_X12_stood_39 {S0 : MS} {S : MS} {c3 : Int32} (hS : (fI [20] [18, 19] S0) S) {k9 : Int32 → Int32 → Option (Int32 × MS)} (hk10 : ∀ (x24 : Int32) (x25 : Int32), (fI [20] [18, 19] S0) S → jf (fI [20] [18, 19] S0) Prod.snd (k9 x24 x25)) : ∀ (n : Nat) (x4 : Int32) (x5 : Int32) (x6 : Int32), (fI [20] [18, 19] S0) S → jf (fI [20] [18, 19] S0) Prod.snd (L_X12_stood_39 S c3 k9 n x4 x5 x6) := by
  refine f_lo3 (I := (fI [20] [18, 19] S0)) (fun x4 x5 x6 => S) (fun rec7 ih8 x4 x5 x6 hS => ?_)
  refine f_ite ?_ ?_
  · exact hk10 x4 x5 hS
  · refine f_jm0 hS (fun  hS => ?_) (fun k19 hk20 => ?_)
    · refine f_bp (fun x11 => ?_)
      refine f_chk ?_
      refine f_bp (fun x12 => ?_)
      refine f_lt (fun x13 => ?_)
      refine f_jm0 hS (fun  hS => ?_) (fun k16 hk17 => ?_)
      · refine f_chk ?_
        refine f_lt (fun x14 => ?_)
        refine f_lt (fun x15 => ?_)
        exact ih8 x14 x13 x15 hS
      · refine f_ite ?_ ?_
        · exact hk17 hS
        · refine f_ite ?_ ?_
          · exact hk17 hS
          · refine f_lt (fun x18 => ?_)
            exact ih8 x4 x5 x18 hS
    · refine f_ite ?_ ?_
      · exact hk20 hS
      · refine f_bp (fun x21 => ?_)
        refine f_bp (fun x22 => ?_)
        refine f_ite ?_ ?_
        · refine f_lt (fun x23 => ?_)
          exact ih8 x4 x5 x23 hS
        · exact hk20 hS
def f_X12_stood (S : MS) (a1 : Int32) (a2 : Int32) (a3 : Int32) (a4 : Int32) : Option (Int32 × MS) :=
  bp (f_X12_canAsk S a1 a2 a3) (fun x1 =>
  (if x1 = true then
  bp (f_X12_isIn a4 0 1) (fun x2 =>
  (if x2 = true then
  bp (f_X12_layChain S a1 a2 a3) (fun S3 =>
  L_X12_stood_39 S3 a3 (fun x26 x27 =>
  (if a4 = 0 then
  some (x27, S3)
 else
  some (x26, S3))) FU (-1) 0 0)
 else
  some ((-2), S)))
 else
  some ((-2), S)))
set_option maxRecDepth 100000 in
set_option maxHeartbeats 4000000 in
theorem c_X12_stood {g : KG} {q : Nat → Nat} {S : MS} {a1 : Int32} {a2 : Int32} {a3 : Int32} {a4 : Int32} {r : Int32} {S' : MS} (h : f_X12_stood S a1 a2 a3 a4 = some (r, S')) : ∀ l, kM l yX12_stood cX12_stood 9 (some .int) rm_X12_stood g [.ref (q 0), .int a1, .int a2, .int a3, .int a4] (mw g q S) (mw g q S') (some (.int r)) 0 0 := by
  refine k_open_i (own := "MarkChainsModel") (by decide) rfl (Nat.le_of_ble_eq_true rfl) (fun X C hR => ?_)
  refine (?_ : jJ X g ((r, S') : Int32 × MS) (mw g q S) 0 0 0 [(0, .ref (q 0)), (1, .int a1), (2, .int a2), (3, .int a3), (4, .int a4)] [] (f_X12_stood S a1 a2 a3 a4)) h
  unfold f_X12_stood
  refine r_aload_n (pc := 0) C dX12_stood_0 0 rfl ?_
  refine r_iload_n (pc := 1) C dX12_stood_1 1 rfl ?_
  refine r_iload_n (pc := 2) C dX12_stood_2 2 rfl ?_
  refine r_iload_n (pc := 3) C dX12_stood_3 3 rfl ?_
  refine r_cVpz (As := [.int a1, .int a2, .int a3]) (st := []) (pc := 4) C (fun _ h => c_X12_canAsk h) kY_X12_canAsk kw_7_102 kw_0_71 kw_7_100 rfl ⟨Nat.le_of_ble_eq_true rfl, Nat.le_of_ble_eq_true rfl⟩ rfl rfl ⟨Nat.zero_le _, Nat.zero_le _⟩ 0 rfl rfl rfl (Nat.le_of_ble_eq_true rfl) dX12_stood_4 (fun x1 => ?_)
  refine r_ifb_eq 20 (pc := 7) C dX12_stood_7 (by decide) ?_ ?_
  · refine r_bipush (pc := 20) C dX12_stood_20 (v := (-2)) (by decide) ?_
    exact r_retWI (wf := mw g q) hR (pc := 22) dX12_stood_22
  · refine r_iload (pc := 10) C dX12_stood_10 4 rfl ?_
    refine r_iconst (pc := 12) C dX12_stood_12 (v := 0) (by decide) ?_
    refine r_iconst (pc := 13) C dX12_stood_13 (v := 1) (by decide) ?_
    refine r_cSpz (As := [.int a4, .int 0, .int 1]) (st := []) (pc := 14) C (fun _ h => c_X12_isIn h) kY_X12_isIn kw_6_124 kw_6_123 rfl ⟨Nat.le_of_ble_eq_true rfl, Nat.le_of_ble_eq_true rfl⟩ rfl rfl ⟨Nat.zero_le _, Nat.zero_le _⟩ rfl (Nat.le_of_ble_eq_true rfl) dX12_stood_14 (fun x2 => ?_)
    refine r_ifb_ne 23 (pc := 17) C dX12_stood_17 (by decide) ?_ ?_
    · refine r_aload_n (pc := 23) C dX12_stood_23 0 rfl ?_
      refine r_iload_n (pc := 24) C dX12_stood_24 1 rfl ?_
      refine r_iload_n (pc := 25) C dX12_stood_25 2 rfl ?_
      refine r_iload_n (pc := 26) C dX12_stood_26 3 rfl ?_
      refine r_cVwv (As := [.int a1, .int a2, .int a3]) (st := []) (wf := mw g q) (pc := 27) C (fun _ h => c_X12_layChain h) kY_X12_layChain kw_7_106 kw_0_72 kw_7_104 rfl ⟨Nat.le_of_ble_eq_true rfl, Nat.le_of_ble_eq_true rfl⟩ rfl rfl ⟨Nat.zero_le _, Nat.zero_le _⟩ 0 rfl rfl rfl (Nat.le_of_ble_eq_true rfl) dX12_stood_27 (fun S3 => ?_)
      refine r_iconst (pc := 30) C dX12_stood_30 (v := (-1)) (by decide) ?_
      refine r_istore (pc := 31) C dX12_stood_31 (lv' := [(0, .ref (q 0)), (1, .int a1), (2, .int a2), (3, .int a3), (4, .int a4), (5, .int (-1))]) (by decide) [1, 2, 3, 4, 5, 0] rfl ?_
      refine r_iconst (pc := 33) C dX12_stood_33 (v := 0) (by decide) ?_
      refine r_istore (pc := 34) C dX12_stood_34 (lv' := [(0, .ref (q 0)), (1, .int a1), (2, .int a2), (3, .int a3), (4, .int a4), (5, .int (-1)), (6, .int 0)]) (by decide) [1, 2, 3, 4, 5, 6, 0] rfl ?_
      refine r_iconst (pc := 36) C dX12_stood_36 (v := 0) (by decide) ?_
      refine r_istore (pc := 37) C dX12_stood_37 (lv' := [(0, .ref (q 0)), (1, .int a1), (2, .int a2), (3, .int a3), (4, .int a4), (5, .int (-1)), (6, .int 0), (7, .int 0)]) (by decide) [1, 2, 3, 4, 5, 6, 7, 0] rfl ?_
      refine r_sub (lv' := [(0, .ref (q 0)), (3, .int a3), (4, .int a4), (5, .int (-1)), (6, .int 0), (7, .int 0)]) [0, 3, 4, 5, 6, 7] rfl ?_
      refine l_X12_stood_39 C hR a3 a4 _ (fun x26 x27 => ?_) FU (-1) 0 0
      refine r_iload (pc := 130) C dX12_stood_130 0 rfl ?_
      refine r_if_ne 140 (pc := 132) C dX12_stood_132 (by decide) ?_ ?_
      · refine r_iload (pc := 140) C dX12_stood_140 1 rfl ?_
        exact r_retWI (wf := mw g q) hR (pc := 142) dX12_stood_142
      · refine r_iload (pc := 135) C dX12_stood_135 2 rfl ?_
        refine r_goto 142 (pc := 137) C dX12_stood_137 (by decide) ?_
        exact r_retWI (wf := mw g q) hR (pc := 142) dX12_stood_142
    · refine r_bipush (pc := 20) C dX12_stood_20 (v := (-2)) (by decide) ?_
      exact r_retWI (wf := mw g q) hR (pc := 22) dX12_stood_22
set_option maxRecDepth 100000 in
theorem w_X12_stood {S : MS} {a1 : Int32} {a2 : Int32} {a3 : Int32} {a4 : Int32} {r : Int32} {S' : MS} (h : f_X12_stood S a1 a2 a3 a4 = some (r, S')) : fI [20] [18, 19] S S' := by
  have hS : fI [20] [18, 19] S S := fI_rf
  refine (?_ : jf (fI [20] [18, 19] S) Prod.snd (f_X12_stood S a1 a2 a3 a4)) _ h
  unfold f_X12_stood
  refine f_bp (fun x1 => ?_)
  refine f_ite ?_ ?_
  · refine f_bp (fun x2 => ?_)
    refine f_ite ?_ ?_
    · refine f_bpS (fun _ h => fI_tr hS (w_X12_layChain h) (by decide) (by decide)) (fun S3 hS3 => ?_)
      refine v_X12_stood_39 hS3 (fun x26 x27 hS3 => ?_) FU (-1) 0 0 hS3
      refine f_ite ?_ ?_
      · exact f_some hS3
      · exact f_some hS3
    · exact f_some hS
  · exact f_some hS
abbrev rm_X12_noteLinks : Room := { frames := 1, cells := 0, slots := 0, locals := 22 }
theorem kY_X12_noteLinks : kY yX12_noteLinks cX12_noteLinks 2 none 0 := ⟨kw_1_13, kw_7_163, by decide, by decide, by decide +kernel⟩
def L_X12_noteLinks_2 (k5 : MS → Option (MS)) : Nat → MS → Int32 → Option (MS) := lo2 fun rec3 S2 x1 =>
  (if 60 ≤ x1 then
  k5 S2
 else
  bp (f_X12_isLinked S2 x1) (fun x7 =>
  chk x1 60 (lt (sa S2 23 (upd (S2.2 23) x1.toNatClampNeg (vp_nar .boolean (b2 x7)))) fun S8 =>
  lt (x1 + 1) fun x9 =>
  rec3 S8 x9)))
set_option maxRecDepth 100000 in
set_option maxHeartbeats 4000000 in
theorem l_X12_noteLinks_2 {X : KX} {g : KG} {q : Nat → Nat} {res : MS} (C : kC X g cX12_noteLinks "MarkChainsModel" rm_X12_noteLinks 2) (hR : ∀ (pc : Nat) (lv : List (Nat × Value)), decode cX12_noteLinks pc = .ok (.return_, 1) → jW X g (mw g q res) 0 0 pc lv []) (k5 : MS → Option (MS)) (hk6 : ∀ (S10 : MS), jJ X g res (mw g q S10) 0 0 25 [] [] (k5 S10)) : ∀ (n : Nat) (S2 : MS) (x1 : Int32), jJ X g res (mw g q S2) 0 0 2 [(0, .ref (q 0)), (1, .int x1)] [] (L_X12_noteLinks_2 k5 n S2 x1) := by
  refine r_lo2 (fun S2 x1 => mw g q S2) (fun S2 x1 => [(0, .ref (q 0)), (1, .int x1)]) (fun rec3 ih4 S2 x1 => ?_)
  refine r_iload_n (pc := 2) C dX12_noteLinks_2 1 rfl ?_
  refine r_bipush (pc := 3) C dX12_noteLinks_3 (v := 60) (by decide) ?_
  refine r_icmp_ge 25 (pc := 5) C dX12_noteLinks_5 (by decide) ?_ ?_
  · refine r_sub (lv' := []) [] rfl ?_
    exact hk6 S2
  · refine r_aload_n (pc := 8) C dX12_noteLinks_8 0 rfl ?_
    refine mg_wasLinked (pc := 9) C dX12_noteLinks_9 ?_
    refine r_iload_n (pc := 12) C dX12_noteLinks_12 1 rfl ?_
    refine r_aload_n (pc := 13) C dX12_noteLinks_13 0 rfl ?_
    refine r_iload_n (pc := 14) C dX12_noteLinks_14 1 rfl ?_
    refine r_cVpz (As := [.int x1]) (st := [.int x1, .ref (q 24)]) (pc := 15) C (fun _ h => c_X12_isLinked h) kY_X12_isLinked kw_7_166 kw_0_81 kw_7_164 rfl ⟨Nat.le_of_ble_eq_true rfl, Nat.le_of_ble_eq_true rfl⟩ rfl rfl ⟨Nat.zero_le _, Nat.zero_le _⟩ 0 rfl rfl rfl (Nat.le_of_ble_eq_true rfl) dX12_noteLinks_15 (fun x7 => ?_)
    refine ms_wasLinked (pc := 18) C dX12_noteLinks_18 (fun S8 => ?_)
    refine r_iinc (pc := 19) C dX12_noteLinks_19 (v := 1) (lv' := fun x9 => [(0, .ref (q 0)), (1, .int x9)]) 1 rfl (by decide) (by decide) [1, 0] (fun _ => rfl) (fun x9 => ?_)
    refine r_goto 2 (pc := 22) C dX12_noteLinks_22 (by decide) ?_
    exact ih4 S8 x9
set_option maxRecDepth 100000 in
theorem v_X12_noteLinks_2 {S0 : MS} {k5 : MS → Option (MS)} (hk6 : ∀ (S10 : MS), (fI [] [23] S0) S10 → jf (fI [] [23] S0) id (k5 S10)) : ∀ (n : Nat) (S2 : MS) (x1 : Int32), (fI [] [23] S0) S2 → jf (fI [] [23] S0) id (L_X12_noteLinks_2 k5 n S2 x1) := by
  refine f_lo2 (I := (fI [] [23] S0)) (fun S2 x1 => S2) (fun rec3 ih4 S2 x1 hS2 => ?_)
  refine f_ite ?_ ?_
  · exact hk6 S2 hS2
  · refine f_bp (fun x7 => ?_)
    refine f_chk (f_ltS (fI_sa hS2 (by decide)) (fun S8 hS8 => ?_))
    refine f_lt (fun x9 => ?_)
    exact ih4 S8 x9 hS8
def f_X12_noteLinks (S : MS) : Option (MS) :=
  L_X12_noteLinks_2 (fun S11 =>
  some S11) FU S 0
set_option maxRecDepth 100000 in
set_option maxHeartbeats 4000000 in
theorem c_X12_noteLinks {g : KG} {q : Nat → Nat} {S : MS}  {S' : MS} (h : f_X12_noteLinks S = some S') : ∀ l, kM l yX12_noteLinks cX12_noteLinks 2 none rm_X12_noteLinks g [.ref (q 0)] (mw g q S) (mw g q S') (none) 0 0 := by
  refine k_open_v (own := "MarkChainsModel") (by decide) rfl (Nat.le_of_ble_eq_true rfl) (fun X C hR => ?_)
  refine (?_ : jJ X g (S' : MS) (mw g q S) 0 0 0 [(0, .ref (q 0))] [] (f_X12_noteLinks S)) h
  unfold f_X12_noteLinks
  refine r_iconst (pc := 0) C dX12_noteLinks_0 (v := 0) (by decide) ?_
  refine r_istore_n (pc := 1) C dX12_noteLinks_1 (lv' := [(0, .ref (q 0)), (1, .int 0)]) (by decide) [1, 0] rfl ?_
  refine l_X12_noteLinks_2 C hR _ (fun S11 => ?_) FU S 0
  exact r_retWV (wf := mw g q) hR (pc := 25) dX12_noteLinks_25
set_option maxRecDepth 100000 in
theorem w_X12_noteLinks {S : MS}  {S' : MS} (h : f_X12_noteLinks S = some S') : fI [] [23] S S' := by
  have hS : fI [] [23] S S := fI_rf
  refine (?_ : jf (fI [] [23] S) id (f_X12_noteLinks S)) _ h
  unfold f_X12_noteLinks
  refine v_X12_noteLinks_2 (fun S11 hS11 => ?_) FU S 0 hS
  exact f_some hS11
abbrev rm_X12_countFresh : Room := { frames := 1, cells := 0, slots := 0, locals := 22 }
theorem kY_X12_countFresh : kY yX12_countFresh cX12_countFresh 2 none 0 := ⟨kw_1_13, kw_7_171, by decide, by decide, by decide +kernel⟩
def L_X12_countFresh_12 (k7 : MS → Option (MS)) : Nat → MS → Int32 → Option (MS) := lo2 fun rec5 S4 x3 =>
  chk 3 1177 (
  (if (S4.2 0 (3 : Int32).toNatClampNeg) ≤ x3 then
  k7 S4
 else
  chk x3 60 (
  (if (S4.2 23 x3.toNatClampNeg) = 0 then
  bp (f_X12_isLinked S4 x3) (fun x10 =>
  (if x10 = true then
  lt (si S4 24 ((S4.1 24) + 1)) fun S11 =>
  jn1 (fun (x12 : Int32) =>
  lt (si S11 25 x12) fun S13 =>
  lt (x3 + 1) fun x14 =>
  rec5 S13 x14) (fun k15 =>
  (if (S11.1 24) = 1 then
  k15 x3
 else
  k15 (S11.1 25)))
 else
  lt (x3 + 1) fun x17 =>
  rec5 S4 x17))
 else
  lt (x3 + 1) fun x9 =>
  rec5 S4 x9))))
set_option maxRecDepth 100000 in
set_option maxHeartbeats 4000000 in
theorem l_X12_countFresh_12 {X : KX} {g : KG} {q : Nat → Nat} {res : MS} (C : kC X g cX12_countFresh "MarkChainsModel" rm_X12_countFresh 2) (hR : ∀ (pc : Nat) (lv : List (Nat × Value)), decode cX12_countFresh pc = .ok (.return_, 1) → jW X g (mw g q res) 0 0 pc lv []) (k7 : MS → Option (MS)) (hk8 : ∀ (S18 : MS), jJ X g res (mw g q S18) 0 0 78 [] [] (k7 S18)) : ∀ (n : Nat) (S4 : MS) (x3 : Int32), jJ X g res (mw g q S4) 0 0 12 [(0, .ref (q 0)), (1, .int x3)] [] (L_X12_countFresh_12 k7 n S4 x3) := by
  refine r_lo2 (fun S4 x3 => mw g q S4) (fun S4 x3 => [(0, .ref (q 0)), (1, .int x3)]) (fun rec5 ih6 S4 x3 => ?_)
  refine r_iload_n (pc := 12) C dX12_countFresh_12 1 rfl ?_
  refine r_aload_n (pc := 13) C dX12_countFresh_13 0 rfl ?_
  refine mg_all (pc := 14) C dX12_countFresh_14 ?_
  refine r_iconst (pc := 17) C dX12_countFresh_17 (v := 3) (by decide) ?_
  refine ml_all (pc := 18) C dX12_countFresh_18 ?_
  refine r_icmp_ge 78 (pc := 19) C dX12_countFresh_19 (by decide) ?_ ?_
  · refine r_sub (lv' := []) [] rfl ?_
    exact hk8 S4
  · refine r_aload_n (pc := 22) C dX12_countFresh_22 0 rfl ?_
    refine mg_wasLinked (pc := 23) C dX12_countFresh_23 ?_
    refine r_iload_n (pc := 26) C dX12_countFresh_26 1 rfl ?_
    refine ml_wasLinked (pc := 27) C dX12_countFresh_27 ?_
    refine r_if_ne 72 (pc := 28) C dX12_countFresh_28 (by decide) ?_ ?_
    · refine r_iinc (pc := 72) C dX12_countFresh_72 (v := 1) (lv' := fun x9 => [(0, .ref (q 0)), (1, .int x9)]) 1 rfl (by decide) (by decide) [1, 0] (fun _ => rfl) (fun x9 => ?_)
      refine r_goto 12 (pc := 75) C dX12_countFresh_75 (by decide) ?_
      exact ih6 S4 x9
    · refine r_aload_n (pc := 31) C dX12_countFresh_31 0 rfl ?_
      refine r_iload_n (pc := 32) C dX12_countFresh_32 1 rfl ?_
      refine r_cVpz (As := [.int x3]) (st := []) (pc := 33) C (fun _ h => c_X12_isLinked h) kY_X12_isLinked kw_7_166 kw_0_81 kw_7_164 rfl ⟨Nat.le_of_ble_eq_true rfl, Nat.le_of_ble_eq_true rfl⟩ rfl rfl ⟨Nat.zero_le _, Nat.zero_le _⟩ 0 rfl rfl rfl (Nat.le_of_ble_eq_true rfl) dX12_countFresh_33 (fun x10 => ?_)
      refine r_ifb_ne 42 (pc := 36) C dX12_countFresh_36 (by decide) ?_ ?_
      · refine r_aload_n (pc := 42) C dX12_countFresh_42 0 rfl ?_
        refine r_dup (pc := 43) C dX12_countFresh_43 rfl ?_
        refine mg_freshMany (pc := 44) C dX12_countFresh_44 ?_
        refine r_iconst (pc := 47) C dX12_countFresh_47 (v := 1) (by decide) ?_
        refine r_iadd (pc := 48) C dX12_countFresh_48 ?_
        refine mp_freshMany (pc := 49) C dX12_countFresh_49 (fun S11 => ?_)
        refine r_aload_n (pc := 52) C dX12_countFresh_52 0 rfl ?_
        refine r_aload_n (pc := 53) C dX12_countFresh_53 0 rfl ?_
        refine mg_freshMany (pc := 54) C dX12_countFresh_54 ?_
        refine r_iconst (pc := 57) C dX12_countFresh_57 (v := 1) (by decide) ?_
        refine r_jn1 69 (fun (x12 : Int32) => mw g q S11) (fun (x12 : Int32) => [(0, .ref (q 0)), (1, .int x3)]) (fun (x12 : Int32) => [.int x12, .ref (q 0)]) (fun x12 => ?_) (fun k15 hk16 => ?_)
        · refine mp_freshFirst (pc := 69) C dX12_countFresh_69 (fun S13 => ?_)
          refine r_iinc (pc := 72) C dX12_countFresh_72 (v := 1) (lv' := fun x14 => [(0, .ref (q 0)), (1, .int x14)]) 1 rfl (by decide) (by decide) [1, 0] (fun _ => rfl) (fun x14 => ?_)
          refine r_goto 12 (pc := 75) C dX12_countFresh_75 (by decide) ?_
          exact ih6 S13 x14
        · refine r_icmp_ne 65 (pc := 58) C dX12_countFresh_58 (by decide) ?_ ?_
          · refine r_aload_n (pc := 65) C dX12_countFresh_65 0 rfl ?_
            refine mg_freshFirst (pc := 66) C dX12_countFresh_66 ?_
            exact hk16 (S11.1 25)
          · refine r_iload_n (pc := 61) C dX12_countFresh_61 1 rfl ?_
            refine r_goto 69 (pc := 62) C dX12_countFresh_62 (by decide) ?_
            exact hk16 x3
      · refine r_goto 72 (pc := 39) C dX12_countFresh_39 (by decide) ?_
        refine r_iinc (pc := 72) C dX12_countFresh_72 (v := 1) (lv' := fun x17 => [(0, .ref (q 0)), (1, .int x17)]) 1 rfl (by decide) (by decide) [1, 0] (fun _ => rfl) (fun x17 => ?_)
        refine r_goto 12 (pc := 75) C dX12_countFresh_75 (by decide) ?_
        exact ih6 S4 x17
set_option maxRecDepth 100000 in
theorem v_X12_countFresh_12 {S0 : MS} {k7 : MS → Option (MS)} (hk8 : ∀ (S18 : MS), (fI [24, 25] [] S0) S18 → jf (fI [24, 25] [] S0) id (k7 S18)) : ∀ (n : Nat) (S4 : MS) (x3 : Int32), (fI [24, 25] [] S0) S4 → jf (fI [24, 25] [] S0) id (L_X12_countFresh_12 k7 n S4 x3) := by
  refine f_lo2 (I := (fI [24, 25] [] S0)) (fun S4 x3 => S4) (fun rec5 ih6 S4 x3 hS4 => ?_)
  refine f_chk ?_
  refine f_ite ?_ ?_
  · exact hk8 S4 hS4
  · refine f_chk ?_
    refine f_ite ?_ ?_
    · refine f_bp (fun x10 => ?_)
      refine f_ite ?_ ?_
      · refine f_ltS (fI_si hS4 (by decide)) (fun S11 hS11 => ?_)
        refine f_jm1 hS11 (fun x12 hS11 => ?_) (fun k15 hk16 => ?_)
        · refine f_ltS (fI_si hS11 (by decide)) (fun S13 hS13 => ?_)
          refine f_lt (fun x14 => ?_)
          exact ih6 S13 x14 hS13
        · refine f_ite ?_ ?_
          · exact hk16 x3 hS11
          · exact hk16 (S11.1 25) hS11
      · refine f_lt (fun x17 => ?_)
        exact ih6 S4 x17 hS4
    · refine f_lt (fun x9 => ?_)
      exact ih6 S4 x9 hS4
def f_X12_countFresh (S : MS) : Option (MS) :=
  lt (si S 24 0) fun S1 =>
  lt (si S1 25 (-1)) fun S2 =>
  L_X12_countFresh_12 (fun S19 =>
  some S19) FU S2 0
set_option maxRecDepth 100000 in
set_option maxHeartbeats 4000000 in
theorem c_X12_countFresh {g : KG} {q : Nat → Nat} {S : MS}  {S' : MS} (h : f_X12_countFresh S = some S') : ∀ l, kM l yX12_countFresh cX12_countFresh 2 none rm_X12_countFresh g [.ref (q 0)] (mw g q S) (mw g q S') (none) 0 0 := by
  refine k_open_v (own := "MarkChainsModel") (by decide) rfl (Nat.le_of_ble_eq_true rfl) (fun X C hR => ?_)
  refine (?_ : jJ X g (S' : MS) (mw g q S) 0 0 0 [(0, .ref (q 0))] [] (f_X12_countFresh S)) h
  unfold f_X12_countFresh
  refine r_aload_n (pc := 0) C dX12_countFresh_0 0 rfl ?_
  refine r_iconst (pc := 1) C dX12_countFresh_1 (v := 0) (by decide) ?_
  refine mp_freshMany (pc := 2) C dX12_countFresh_2 (fun S1 => ?_)
  refine r_aload_n (pc := 5) C dX12_countFresh_5 0 rfl ?_
  refine r_iconst (pc := 6) C dX12_countFresh_6 (v := (-1)) (by decide) ?_
  refine mp_freshFirst (pc := 7) C dX12_countFresh_7 (fun S2 => ?_)
  refine r_iconst (pc := 10) C dX12_countFresh_10 (v := 0) (by decide) ?_
  refine r_istore_n (pc := 11) C dX12_countFresh_11 (lv' := [(0, .ref (q 0)), (1, .int 0)]) (by decide) [1, 0] rfl ?_
  refine l_X12_countFresh_12 C hR _ (fun S19 => ?_) FU S2 0
  exact r_retWV (wf := mw g q) hR (pc := 78) dX12_countFresh_78
set_option maxRecDepth 100000 in
theorem w_X12_countFresh {S : MS}  {S' : MS} (h : f_X12_countFresh S = some S') : fI [24, 25] [] S S' := by
  have hS : fI [24, 25] [] S S := fI_rf
  refine (?_ : jf (fI [24, 25] [] S) id (f_X12_countFresh S)) _ h
  unfold f_X12_countFresh
  refine f_ltS (fI_si hS (by decide)) (fun S1 hS1 => ?_)
  refine f_ltS (fI_si hS1 (by decide)) (fun S2 hS2 => ?_)
  refine v_X12_countFresh_12 (fun S19 hS19 => ?_) FU S2 0 hS2
  exact f_some hS19
abbrev rm_X12_altered : Room := { frames := 6, cells := 0, slots := 0, locals := 136 }
theorem kY_X12_altered : kY yX12_altered cX12_altered 5 (some .int) 4 := ⟨kw_1_13, kw_7_159, by decide, by decide, by decide +kernel⟩
def f_X12_altered (S : MS) (a1 : Int32) (a2 : Int32) (a3 : Int32) (a4 : Int32) : Option (Int32 × MS) :=
  bp (f_X12_isIn a1 0 191) (fun x1 =>
  (if x1 = true then
  bp (f_X12_canAsk S (a1 / 32) (a1 - a1 / 32 * 32) a2) (fun x2 =>
  (if x2 = true then
  bp (f_X12_isIn a3 0 20000) (fun x3 =>
  (if x3 = true then
  bp (f_X12_isIn a4 0 3) (fun x4 =>
  (if x4 = true then
  jn1 (fun (x5 : Int32) =>
  bp (f_X12_layChain S (a1 / 32) (a1 - a1 / 32 * 32) x5) (fun S6 =>
  bp (f_X12_noteLinks S6) (fun S7 =>
  jn1 (fun (x8 : Int32) =>
  bp (f_X12_layChain S7 (a1 / 32) (a1 - a1 / 32 * 32) x8) (fun S9 =>
  bp (f_X12_countFresh S9) (fun S10 =>
  (if (a4 - a4 / 2 * 2) = 0 then
  some (S10.1 24, S10)
 else
  some (S10.1 25, S10))))) (fun k11 =>
  (if 2 ≤ a4 then
  k11 a2
 else
  k11 a3))))) (fun k13 =>
  (if 2 ≤ a4 then
  k13 a3
 else
  k13 a2))
 else
  some ((-2), S)))
 else
  some ((-2), S)))
 else
  some ((-2), S)))
 else
  some ((-2), S)))
set_option maxRecDepth 100000 in
set_option maxHeartbeats 4000000 in
theorem c_X12_altered {g : KG} {q : Nat → Nat} {S : MS} {a1 : Int32} {a2 : Int32} {a3 : Int32} {a4 : Int32} {r : Int32} {S' : MS} (h : f_X12_altered S a1 a2 a3 a4 = some (r, S')) : ∀ l, kM l yX12_altered cX12_altered 5 (some .int) rm_X12_altered g [.ref (q 0), .int a1, .int a2, .int a3, .int a4] (mw g q S) (mw g q S') (some (.int r)) 0 0 := by
  refine k_open_i (own := "MarkChainsModel") (by decide) rfl (Nat.le_of_ble_eq_true rfl) (fun X C hR => ?_)
  refine (?_ : jJ X g ((r, S') : Int32 × MS) (mw g q S) 0 0 0 [(0, .ref (q 0)), (1, .int a1), (2, .int a2), (3, .int a3), (4, .int a4)] [] (f_X12_altered S a1 a2 a3 a4)) h
  unfold f_X12_altered
  refine r_iload_n (pc := 0) C dX12_altered_0 1 rfl ?_
  refine r_iconst (pc := 1) C dX12_altered_1 (v := 0) (by decide) ?_
  refine r_sipush (pc := 2) C dX12_altered_2 (v := 191) (by decide) ?_
  refine r_cSpz (As := [.int a1, .int 0, .int 191]) (st := []) (pc := 5) C (fun _ h => c_X12_isIn h) kY_X12_isIn kw_6_124 kw_6_123 rfl ⟨Nat.le_of_ble_eq_true rfl, Nat.le_of_ble_eq_true rfl⟩ rfl rfl ⟨Nat.zero_le _, Nat.zero_le _⟩ rfl (Nat.le_of_ble_eq_true rfl) dX12_altered_5 (fun x1 => ?_)
  refine r_ifb_eq 48 (pc := 8) C dX12_altered_8 (by decide) ?_ ?_
  · refine r_bipush (pc := 48) C dX12_altered_48 (v := (-2)) (by decide) ?_
    exact r_retWI (wf := mw g q) hR (pc := 50) dX12_altered_50
  · refine r_aload_n (pc := 11) C dX12_altered_11 0 rfl ?_
    refine r_iload_n (pc := 12) C dX12_altered_12 1 rfl ?_
    refine r_bipush (pc := 13) C dX12_altered_13 (v := 32) (by decide) ?_
    refine r_idiv (pc := 15) C dX12_altered_15 (by decide) ?_
    refine r_iload_n (pc := 16) C dX12_altered_16 1 rfl ?_
    refine r_bipush (pc := 17) C dX12_altered_17 (v := 32) (by decide) ?_
    refine r_irem (pc := 19) C dX12_altered_19 (by decide) ?_
    refine r_iload_n (pc := 20) C dX12_altered_20 2 rfl ?_
    refine r_cVpz (As := [.int (a1 / 32), .int (a1 - a1 / 32 * 32), .int a2]) (st := []) (pc := 21) C (fun _ h => c_X12_canAsk h) kY_X12_canAsk kw_7_102 kw_0_71 kw_7_100 rfl ⟨Nat.le_of_ble_eq_true rfl, Nat.le_of_ble_eq_true rfl⟩ rfl rfl ⟨Nat.zero_le _, Nat.zero_le _⟩ 0 rfl rfl rfl (Nat.le_of_ble_eq_true rfl) dX12_altered_21 (fun x2 => ?_)
    refine r_ifb_eq 48 (pc := 24) C dX12_altered_24 (by decide) ?_ ?_
    · refine r_bipush (pc := 48) C dX12_altered_48 (v := (-2)) (by decide) ?_
      exact r_retWI (wf := mw g q) hR (pc := 50) dX12_altered_50
    · refine r_iload_n (pc := 27) C dX12_altered_27 3 rfl ?_
      refine r_iconst (pc := 28) C dX12_altered_28 (v := 0) (by decide) ?_
      refine r_sipush (pc := 29) C dX12_altered_29 (v := 20000) (by decide) ?_
      refine r_cSpz (As := [.int a3, .int 0, .int 20000]) (st := []) (pc := 32) C (fun _ h => c_X12_isIn h) kY_X12_isIn kw_6_124 kw_6_123 rfl ⟨Nat.le_of_ble_eq_true rfl, Nat.le_of_ble_eq_true rfl⟩ rfl rfl ⟨Nat.zero_le _, Nat.zero_le _⟩ rfl (Nat.le_of_ble_eq_true rfl) dX12_altered_32 (fun x3 => ?_)
      refine r_ifb_eq 48 (pc := 35) C dX12_altered_35 (by decide) ?_ ?_
      · refine r_bipush (pc := 48) C dX12_altered_48 (v := (-2)) (by decide) ?_
        exact r_retWI (wf := mw g q) hR (pc := 50) dX12_altered_50
      · refine r_iload (pc := 38) C dX12_altered_38 4 rfl ?_
        refine r_iconst (pc := 40) C dX12_altered_40 (v := 0) (by decide) ?_
        refine r_iconst (pc := 41) C dX12_altered_41 (v := 3) (by decide) ?_
        refine r_cSpz (As := [.int a4, .int 0, .int 3]) (st := []) (pc := 42) C (fun _ h => c_X12_isIn h) kY_X12_isIn kw_6_124 kw_6_123 rfl ⟨Nat.le_of_ble_eq_true rfl, Nat.le_of_ble_eq_true rfl⟩ rfl rfl ⟨Nat.zero_le _, Nat.zero_le _⟩ rfl (Nat.le_of_ble_eq_true rfl) dX12_altered_42 (fun x4 => ?_)
        refine r_ifb_ne 51 (pc := 45) C dX12_altered_45 (by decide) ?_ ?_
        · refine r_aload_n (pc := 51) C dX12_altered_51 0 rfl ?_
          refine r_iload_n (pc := 52) C dX12_altered_52 1 rfl ?_
          refine r_bipush (pc := 53) C dX12_altered_53 (v := 32) (by decide) ?_
          refine r_idiv (pc := 55) C dX12_altered_55 (by decide) ?_
          refine r_iload_n (pc := 56) C dX12_altered_56 1 rfl ?_
          refine r_bipush (pc := 57) C dX12_altered_57 (v := 32) (by decide) ?_
          refine r_irem (pc := 59) C dX12_altered_59 (by decide) ?_
          refine r_iload (pc := 60) C dX12_altered_60 4 rfl ?_
          refine r_iconst (pc := 62) C dX12_altered_62 (v := 2) (by decide) ?_
          refine r_jn1 71 (fun (x5 : Int32) => mw g q S) (fun (x5 : Int32) => [(0, .ref (q 0)), (1, .int a1), (2, .int a2), (3, .int a3), (4, .int a4)]) (fun (x5 : Int32) => [.int x5, .int (a1 - a1 / 32 * 32), .int (a1 / 32), .ref (q 0)]) (fun x5 => ?_) (fun k13 hk14 => ?_)
          · refine r_cVwv (As := [.int (a1 / 32), .int (a1 - a1 / 32 * 32), .int x5]) (st := []) (wf := mw g q) (pc := 71) C (fun _ h => c_X12_layChain h) kY_X12_layChain kw_7_106 kw_0_72 kw_7_104 rfl ⟨Nat.le_of_ble_eq_true rfl, Nat.le_of_ble_eq_true rfl⟩ rfl rfl ⟨Nat.zero_le _, Nat.zero_le _⟩ 0 rfl rfl rfl (Nat.le_of_ble_eq_true rfl) dX12_altered_71 (fun S6 => ?_)
            refine r_aload_n (pc := 74) C dX12_altered_74 0 rfl ?_
            refine r_cVwv (As := []) (st := []) (wf := mw g q) (pc := 75) C (fun _ h => c_X12_noteLinks h) kY_X12_noteLinks kw_7_162 kw_0_80 kw_7_160 rfl ⟨Nat.le_of_ble_eq_true rfl, Nat.le_of_ble_eq_true rfl⟩ rfl rfl ⟨Nat.zero_le _, Nat.zero_le _⟩ 0 rfl rfl rfl (Nat.le_of_ble_eq_true rfl) dX12_altered_75 (fun S7 => ?_)
            refine r_aload_n (pc := 78) C dX12_altered_78 0 rfl ?_
            refine r_iload_n (pc := 79) C dX12_altered_79 1 rfl ?_
            refine r_bipush (pc := 80) C dX12_altered_80 (v := 32) (by decide) ?_
            refine r_idiv (pc := 82) C dX12_altered_82 (by decide) ?_
            refine r_iload_n (pc := 83) C dX12_altered_83 1 rfl ?_
            refine r_bipush (pc := 84) C dX12_altered_84 (v := 32) (by decide) ?_
            refine r_irem (pc := 86) C dX12_altered_86 (by decide) ?_
            refine r_iload (pc := 87) C dX12_altered_87 4 rfl ?_
            refine r_iconst (pc := 89) C dX12_altered_89 (v := 2) (by decide) ?_
            refine r_jn1 98 (fun (x8 : Int32) => mw g q S7) (fun (x8 : Int32) => [(0, .ref (q 0)), (4, .int a4)]) (fun (x8 : Int32) => [.int x8, .int (a1 - a1 / 32 * 32), .int (a1 / 32), .ref (q 0)]) (fun x8 => ?_) (fun k11 hk12 => ?_)
            · refine r_cVwv (As := [.int (a1 / 32), .int (a1 - a1 / 32 * 32), .int x8]) (st := []) (wf := mw g q) (pc := 98) C (fun _ h => c_X12_layChain h) kY_X12_layChain kw_7_106 kw_0_72 kw_7_104 rfl ⟨Nat.le_of_ble_eq_true rfl, Nat.le_of_ble_eq_true rfl⟩ rfl rfl ⟨Nat.zero_le _, Nat.zero_le _⟩ 0 rfl rfl rfl (Nat.le_of_ble_eq_true rfl) dX12_altered_98 (fun S9 => ?_)
              refine r_aload_n (pc := 101) C dX12_altered_101 0 rfl ?_
              refine r_cVwv (As := []) (st := []) (wf := mw g q) (pc := 102) C (fun _ h => c_X12_countFresh h) kY_X12_countFresh kw_7_170 kw_0_82 kw_7_168 rfl ⟨Nat.le_of_ble_eq_true rfl, Nat.le_of_ble_eq_true rfl⟩ rfl rfl ⟨Nat.zero_le _, Nat.zero_le _⟩ 0 rfl rfl rfl (Nat.le_of_ble_eq_true rfl) dX12_altered_102 (fun S10 => ?_)
              refine r_iload (pc := 105) C dX12_altered_105 1 rfl ?_
              refine r_iconst (pc := 107) C dX12_altered_107 (v := 2) (by decide) ?_
              refine r_irem (pc := 108) C dX12_altered_108 (by decide) ?_
              refine r_if_ne 119 (pc := 109) C dX12_altered_109 (by decide) ?_ ?_
              · refine r_aload_n (pc := 119) C dX12_altered_119 0 rfl ?_
                refine mg_freshFirst (pc := 120) C dX12_altered_120 ?_
                exact r_retWI (wf := mw g q) hR (pc := 123) dX12_altered_123
              · refine r_aload_n (pc := 112) C dX12_altered_112 0 rfl ?_
                refine mg_freshMany (pc := 113) C dX12_altered_113 ?_
                refine r_goto 123 (pc := 116) C dX12_altered_116 (by decide) ?_
                exact r_retWI (wf := mw g q) hR (pc := 123) dX12_altered_123
            · refine r_icmp_ge 97 (pc := 90) C dX12_altered_90 (by decide) ?_ ?_
              · refine r_iload_n (pc := 97) C dX12_altered_97 2 rfl ?_
                refine r_sub (lv' := [(0, .ref (q 0)), (4, .int a4)]) [0, 4] rfl ?_
                exact hk12 a2
              · refine r_iload_n (pc := 93) C dX12_altered_93 3 rfl ?_
                refine r_goto 98 (pc := 94) C dX12_altered_94 (by decide) ?_
                refine r_sub (lv' := [(0, .ref (q 0)), (4, .int a4)]) [0, 4] rfl ?_
                exact hk12 a3
          · refine r_icmp_ge 70 (pc := 63) C dX12_altered_63 (by decide) ?_ ?_
            · refine r_iload_n (pc := 70) C dX12_altered_70 3 rfl ?_
              exact hk14 a3
            · refine r_iload_n (pc := 66) C dX12_altered_66 2 rfl ?_
              refine r_goto 71 (pc := 67) C dX12_altered_67 (by decide) ?_
              exact hk14 a2
        · refine r_bipush (pc := 48) C dX12_altered_48 (v := (-2)) (by decide) ?_
          exact r_retWI (wf := mw g q) hR (pc := 50) dX12_altered_50
set_option maxRecDepth 100000 in
theorem w_X12_altered {S : MS} {a1 : Int32} {a2 : Int32} {a3 : Int32} {a4 : Int32} {r : Int32} {S' : MS} (h : f_X12_altered S a1 a2 a3 a4 = some (r, S')) : fI [20, 24, 25] [18, 19, 23] S S' := by
  have hS : fI [20, 24, 25] [18, 19, 23] S S := fI_rf
  refine (?_ : jf (fI [20, 24, 25] [18, 19, 23] S) Prod.snd (f_X12_altered S a1 a2 a3 a4)) _ h
  unfold f_X12_altered
  refine f_bp (fun x1 => ?_)
  refine f_ite ?_ ?_
  · refine f_bp (fun x2 => ?_)
    refine f_ite ?_ ?_
    · refine f_bp (fun x3 => ?_)
      refine f_ite ?_ ?_
      · refine f_bp (fun x4 => ?_)
        refine f_ite ?_ ?_
        · refine f_jm1 hS (fun x5 hS => ?_) (fun k13 hk14 => ?_)
          · refine f_bpS (fun _ h => fI_tr hS (w_X12_layChain h) (by decide) (by decide)) (fun S6 hS6 => ?_)
            refine f_bpS (fun _ h => fI_tr hS6 (w_X12_noteLinks h) (by decide) (by decide)) (fun S7 hS7 => ?_)
            refine f_jm1 hS7 (fun x8 hS7 => ?_) (fun k11 hk12 => ?_)
            · refine f_bpS (fun _ h => fI_tr hS7 (w_X12_layChain h) (by decide) (by decide)) (fun S9 hS9 => ?_)
              refine f_bpS (fun _ h => fI_tr hS9 (w_X12_countFresh h) (by decide) (by decide)) (fun S10 hS10 => ?_)
              refine f_ite ?_ ?_
              · exact f_some hS10
              · exact f_some hS10
            · refine f_ite ?_ ?_
              · exact hk12 a2 hS7
              · exact hk12 a3 hS7
          · refine f_ite ?_ ?_
            · exact hk14 a3 hS
            · exact hk14 a2 hS
        · exact f_some hS
      · exact f_some hS
    · exact f_some hS
  · exact f_some hS
abbrev rm_X12_isFore : Room := { frames := 3, cells := 0, slots := 0, locals := 64 }
theorem kY_X12_isFore : kY yX12_isFore cX12_isFore 4 (some .boolean) 3 := ⟨kw_1_13, kw_7_183, by decide, by decide, by decide +kernel⟩
def f_X12_isFore (S : MS) (a1 : Int32) (a2 : Int32) (a3 : Int32) : Option (Bool) :=
  bp (f_X12_of S a2 5) (fun x1 =>
  bp (f_X12_of S a3 5) (fun x2 =>
  (if x1 = x2 then
  bp (f_X12_isAhead S a2 a3) (fun x3 =>
  some x3)
 else
  bp (f_X12_of S a2 5) (fun x4 =>
  bp (f_X12_of S a3 5) (fun x5 =>
  bp (f_X12_isBetter S a1 x4 x5) (fun x6 =>
  some x6))))))
set_option maxRecDepth 100000 in
set_option maxHeartbeats 4000000 in
theorem c_X12_isFore {g : KG} {q : Nat → Nat} {S : MS} {a1 : Int32} {a2 : Int32} {a3 : Int32} {r : Bool} (h : f_X12_isFore S a1 a2 a3 = some r) : ∀ l, kM l yX12_isFore cX12_isFore 4 (some .boolean) rm_X12_isFore g [.ref (q 0), .int a1, .int a2, .int a3] (mw g q S) (mw g q S) (some (.int (b2 r))) 0 0 := by
  refine k_open_z (own := "MarkChainsModel") (by decide) rfl (Nat.le_of_ble_eq_true rfl) (fun X C hR => ?_)
  refine (?_ : jJ X g (r : Bool) (mw g q S) 0 0 0 [(0, .ref (q 0)), (1, .int a1), (2, .int a2), (3, .int a3)] [] (f_X12_isFore S a1 a2 a3)) h
  unfold f_X12_isFore
  refine r_aload_n (pc := 0) C dX12_isFore_0 0 rfl ?_
  refine r_iload_n (pc := 1) C dX12_isFore_1 2 rfl ?_
  refine r_iconst (pc := 2) C dX12_isFore_2 (v := 5) (by decide) ?_
  refine r_cVpi (As := [.int a2, .int 5]) (st := []) (pc := 3) C (fun _ h => c_X12_of h) kY_X12_of kw_7_27 kw_0_64 kw_7_25 rfl ⟨Nat.le_of_ble_eq_true rfl, Nat.le_of_ble_eq_true rfl⟩ rfl rfl ⟨Nat.zero_le _, Nat.zero_le _⟩ 0 rfl rfl rfl (Nat.le_of_ble_eq_true rfl) dX12_isFore_3 (fun x1 => ?_)
  refine r_aload_n (pc := 6) C dX12_isFore_6 0 rfl ?_
  refine r_iload_n (pc := 7) C dX12_isFore_7 3 rfl ?_
  refine r_iconst (pc := 8) C dX12_isFore_8 (v := 5) (by decide) ?_
  refine r_cVpi (As := [.int a3, .int 5]) (st := [.int x1]) (pc := 9) C (fun _ h => c_X12_of h) kY_X12_of kw_7_27 kw_0_64 kw_7_25 rfl ⟨Nat.le_of_ble_eq_true rfl, Nat.le_of_ble_eq_true rfl⟩ rfl rfl ⟨Nat.zero_le _, Nat.zero_le _⟩ 0 rfl rfl rfl (Nat.le_of_ble_eq_true rfl) dX12_isFore_9 (fun x2 => ?_)
  refine r_icmp_eq 35 (pc := 12) C dX12_isFore_12 (by decide) ?_ ?_
  · refine r_aload_n (pc := 35) C dX12_isFore_35 0 rfl ?_
    refine r_iload_n (pc := 36) C dX12_isFore_36 2 rfl ?_
    refine r_iload_n (pc := 37) C dX12_isFore_37 3 rfl ?_
    refine r_cVpz (As := [.int a2, .int a3]) (st := []) (pc := 38) C (fun _ h => c_X12_isAhead h) kY_X12_isAhead kw_7_114 kw_0_74 kw_7_112 rfl ⟨Nat.le_of_ble_eq_true rfl, Nat.le_of_ble_eq_true rfl⟩ rfl rfl ⟨Nat.zero_le _, Nat.zero_le _⟩ 0 rfl rfl rfl (Nat.le_of_ble_eq_true rfl) dX12_isFore_38 (fun x3 => ?_)
    exact r_retPZ hR rfl (pc := 41) dX12_isFore_41
  · refine r_aload_n (pc := 15) C dX12_isFore_15 0 rfl ?_
    refine r_iload_n (pc := 16) C dX12_isFore_16 1 rfl ?_
    refine r_aload_n (pc := 17) C dX12_isFore_17 0 rfl ?_
    refine r_iload_n (pc := 18) C dX12_isFore_18 2 rfl ?_
    refine r_iconst (pc := 19) C dX12_isFore_19 (v := 5) (by decide) ?_
    refine r_cVpi (As := [.int a2, .int 5]) (st := [.int a1, .ref (q 0)]) (pc := 20) C (fun _ h => c_X12_of h) kY_X12_of kw_7_27 kw_0_64 kw_7_25 rfl ⟨Nat.le_of_ble_eq_true rfl, Nat.le_of_ble_eq_true rfl⟩ rfl rfl ⟨Nat.zero_le _, Nat.zero_le _⟩ 0 rfl rfl rfl (Nat.le_of_ble_eq_true rfl) dX12_isFore_20 (fun x4 => ?_)
    refine r_aload_n (pc := 23) C dX12_isFore_23 0 rfl ?_
    refine r_iload_n (pc := 24) C dX12_isFore_24 3 rfl ?_
    refine r_iconst (pc := 25) C dX12_isFore_25 (v := 5) (by decide) ?_
    refine r_cVpi (As := [.int a3, .int 5]) (st := [.int x4, .int a1, .ref (q 0)]) (pc := 26) C (fun _ h => c_X12_of h) kY_X12_of kw_7_27 kw_0_64 kw_7_25 rfl ⟨Nat.le_of_ble_eq_true rfl, Nat.le_of_ble_eq_true rfl⟩ rfl rfl ⟨Nat.zero_le _, Nat.zero_le _⟩ 0 rfl rfl rfl (Nat.le_of_ble_eq_true rfl) dX12_isFore_26 (fun x5 => ?_)
    refine r_cVpz (As := [.int a1, .int x4, .int x5]) (st := []) (pc := 29) C (fun _ h => c_X12_isBetter h) kY_X12_isBetter kw_7_118 kw_0_75 kw_7_116 rfl ⟨Nat.le_of_ble_eq_true rfl, Nat.le_of_ble_eq_true rfl⟩ rfl rfl ⟨Nat.zero_le _, Nat.zero_le _⟩ 0 rfl rfl rfl (Nat.le_of_ble_eq_true rfl) dX12_isFore_29 (fun x6 => ?_)
    refine r_goto 41 (pc := 32) C dX12_isFore_32 (by decide) ?_
    exact r_retPZ hR rfl (pc := 41) dX12_isFore_41
abbrev rm_X12_layList : Room := { frames := 5, cells := 0, slots := 0, locals := 111 }
theorem kY_X12_layList : kY yX12_layList cX12_layList 8 none 3 := ⟨kw_1_13, kw_7_179, by decide, by decide, by decide +kernel⟩
def L_X12_layList_34 (S : MS) (c1 : Int32) (c4 : Int32) (c5 : Int32) (k14 : Int32 → Option (MS)) : Nat → Int32 → Int32 → Option (MS) := lo2 fun rec12 x10 x11 =>
  (if c4 ≤ x11 then
  k14 x10
 else
  jn1 (fun (x16 : Int32) =>
  lt (x11 + 1) fun x17 =>
  rec12 x16 x17) (fun k18 =>
  jn0 (k18 0) (fun k20 =>
  (if x10 = 0 then
  k20
 else
  chk x11 60 (
  bp (f_X12_of S (S.2 18 x11.toNatClampNeg) 1) (fun x22 =>
  chk c5 60 (
  bp (f_X12_of S (S.2 18 c5.toNatClampNeg) 1) (fun x23 =>
  (if x22 = x23 then
  (if x11 = c5 then
  k18 1
 else
  chk c5 60 (
  chk x11 60 (
  bp (f_X12_isFore S c1 (S.2 18 c5.toNatClampNeg) (S.2 18 x11.toNatClampNeg)) (fun x24 =>
  (if x24 = true then
  k18 1
 else
  k20)))))
 else
  k18 1)))))))))
set_option maxRecDepth 100000 in
set_option maxHeartbeats 4000000 in
theorem l_X12_layList_34 {X : KX} {g : KG} {q : Nat → Nat} {res : MS} {S : MS} (C : kC X g cX12_layList "MarkChainsModel" rm_X12_layList 8) (hR : ∀ (pc : Nat) (lv : List (Nat × Value)), decode cX12_layList pc = .ok (.return_, 1) → jW X g (mw g q res) 0 0 pc lv []) (c1 : Int32) (c4 : Int32) (c5 : Int32) (k14 : Int32 → Option (MS)) (hk15 : ∀ (x25 : Int32), jJ X g res (mw g q S) 0 0 115 [(0, .ref (q 0)), (1, .int c1), (4, .int c4), (5, .int c5), (6, .int x25)] [] (k14 x25)) : ∀ (n : Nat) (x10 : Int32) (x11 : Int32), jJ X g res (mw g q S) 0 0 34 [(0, .ref (q 0)), (1, .int c1), (4, .int c4), (5, .int c5), (6, .int x10), (7, .int x11)] [] (L_X12_layList_34 S c1 c4 c5 k14 n x10 x11) := by
  refine r_lo2 (fun x10 x11 => mw g q S) (fun x10 x11 => [(0, .ref (q 0)), (1, .int c1), (4, .int c4), (5, .int c5), (6, .int x10), (7, .int x11)]) (fun rec12 ih13 x10 x11 => ?_)
  refine r_iload (pc := 34) C dX12_layList_34 5 rfl ?_
  refine r_iload (pc := 36) C dX12_layList_36 2 rfl ?_
  refine r_icmp_ge 115 (pc := 38) C dX12_layList_38 (by decide) ?_ ?_
  · refine r_sub (lv' := [(0, .ref (q 0)), (1, .int c1), (4, .int c4), (5, .int c5), (6, .int x10)]) [0, 1, 2, 3, 4] rfl ?_
    exact hk15 x10
  · refine r_iload (pc := 41) C dX12_layList_41 4 rfl ?_
    refine r_jn1 107 (fun (x16 : Int32) => mw g q S) (fun (x16 : Int32) => [(0, .ref (q 0)), (1, .int c1), (4, .int c4), (5, .int c5), (7, .int x11)]) (fun (x16 : Int32) => [.int x16]) (fun x16 => ?_) (fun k18 hk19 => ?_)
    · refine r_istore (pc := 107) C dX12_layList_107 (lv' := [(0, .ref (q 0)), (1, .int c1), (4, .int c4), (5, .int c5), (6, .int x16), (7, .int x11)]) (by decide) [1, 2, 3, 4, 0, 5] rfl ?_
      refine r_iinc (pc := 109) C dX12_layList_109 (v := 1) (lv' := fun x17 => [(0, .ref (q 0)), (1, .int c1), (4, .int c4), (5, .int c5), (6, .int x16), (7, .int x17)]) 5 rfl (by decide) (by decide) [1, 2, 3, 4, 5, 0] (fun _ => rfl) (fun x17 => ?_)
      refine r_goto 34 (pc := 112) C dX12_layList_112 (by decide) ?_
      exact ih13 x16 x17
    · refine r_jn0 106 (mw g q S) ([(0, .ref (q 0)), (1, .int c1), (4, .int c4), (5, .int c5), (7, .int x11)]) ([]) ?_ (fun k20 hk21 => ?_)
      · refine r_iconst (pc := 106) C dX12_layList_106 (v := 0) (by decide) ?_
        exact hk19 0
      · refine r_if_eq 106 (pc := 43) C dX12_layList_43 (by decide) ?_ ?_
        · refine r_sub (lv' := [(0, .ref (q 0)), (1, .int c1), (4, .int c4), (5, .int c5), (7, .int x11)]) [0, 1, 2, 3, 5] rfl ?_
          exact hk21
        · refine r_aload_n (pc := 46) C dX12_layList_46 0 rfl ?_
          refine r_aload_n (pc := 47) C dX12_layList_47 0 rfl ?_
          refine mg_order (pc := 48) C dX12_layList_48 ?_
          refine r_iload (pc := 51) C dX12_layList_51 5 rfl ?_
          refine ml_order (pc := 53) C dX12_layList_53 ?_
          refine r_iconst (pc := 54) C dX12_layList_54 (v := 1) (by decide) ?_
          refine r_cVpi (As := [.int (S.2 18 x11.toNatClampNeg), .int 1]) (st := []) (pc := 55) C (fun _ h => c_X12_of h) kY_X12_of kw_7_27 kw_0_64 kw_7_25 rfl ⟨Nat.le_of_ble_eq_true rfl, Nat.le_of_ble_eq_true rfl⟩ rfl rfl ⟨Nat.zero_le _, Nat.zero_le _⟩ 0 rfl rfl rfl (Nat.le_of_ble_eq_true rfl) dX12_layList_55 (fun x22 => ?_)
          refine r_aload_n (pc := 58) C dX12_layList_58 0 rfl ?_
          refine r_aload_n (pc := 59) C dX12_layList_59 0 rfl ?_
          refine mg_order (pc := 60) C dX12_layList_60 ?_
          refine r_iload (pc := 63) C dX12_layList_63 3 rfl ?_
          refine ml_order (pc := 65) C dX12_layList_65 ?_
          refine r_iconst (pc := 66) C dX12_layList_66 (v := 1) (by decide) ?_
          refine r_cVpi (As := [.int (S.2 18 c5.toNatClampNeg), .int 1]) (st := [.int x22]) (pc := 67) C (fun _ h => c_X12_of h) kY_X12_of kw_7_27 kw_0_64 kw_7_25 rfl ⟨Nat.le_of_ble_eq_true rfl, Nat.le_of_ble_eq_true rfl⟩ rfl rfl ⟨Nat.zero_le _, Nat.zero_le _⟩ 0 rfl rfl rfl (Nat.le_of_ble_eq_true rfl) dX12_layList_67 (fun x23 => ?_)
          refine r_icmp_ne 102 (pc := 70) C dX12_layList_70 (by decide) ?_ ?_
          · refine r_iconst (pc := 102) C dX12_layList_102 (v := 1) (by decide) ?_
            refine r_goto 107 (pc := 103) C dX12_layList_103 (by decide) ?_
            refine r_sub (lv' := [(0, .ref (q 0)), (1, .int c1), (4, .int c4), (5, .int c5), (7, .int x11)]) [0, 1, 2, 3, 5] rfl ?_
            exact hk19 1
          · refine r_iload (pc := 73) C dX12_layList_73 5 rfl ?_
            refine r_iload (pc := 75) C dX12_layList_75 3 rfl ?_
            refine r_icmp_eq 102 (pc := 77) C dX12_layList_77 (by decide) ?_ ?_
            · refine r_iconst (pc := 102) C dX12_layList_102 (v := 1) (by decide) ?_
              refine r_goto 107 (pc := 103) C dX12_layList_103 (by decide) ?_
              refine r_sub (lv' := [(0, .ref (q 0)), (1, .int c1), (4, .int c4), (5, .int c5), (7, .int x11)]) [0, 1, 2, 3, 5] rfl ?_
              exact hk19 1
            · refine r_aload_n (pc := 80) C dX12_layList_80 0 rfl ?_
              refine r_iload_n (pc := 81) C dX12_layList_81 1 rfl ?_
              refine r_aload_n (pc := 82) C dX12_layList_82 0 rfl ?_
              refine mg_order (pc := 83) C dX12_layList_83 ?_
              refine r_iload (pc := 86) C dX12_layList_86 3 rfl ?_
              refine ml_order (pc := 88) C dX12_layList_88 ?_
              refine r_aload_n (pc := 89) C dX12_layList_89 0 rfl ?_
              refine mg_order (pc := 90) C dX12_layList_90 ?_
              refine r_iload (pc := 93) C dX12_layList_93 5 rfl ?_
              refine ml_order (pc := 95) C dX12_layList_95 ?_
              refine r_cVpz (As := [.int c1, .int (S.2 18 c5.toNatClampNeg), .int (S.2 18 x11.toNatClampNeg)]) (st := []) (pc := 96) C (fun _ h => c_X12_isFore h) kY_X12_isFore kw_7_182 kw_0_84 kw_7_180 rfl ⟨Nat.le_of_ble_eq_true rfl, Nat.le_of_ble_eq_true rfl⟩ rfl rfl ⟨Nat.zero_le _, Nat.zero_le _⟩ 0 rfl rfl rfl (Nat.le_of_ble_eq_true rfl) dX12_layList_96 (fun x24 => ?_)
              refine r_ifb_eq 106 (pc := 99) C dX12_layList_99 (by decide) ?_ ?_
              · refine r_sub (lv' := [(0, .ref (q 0)), (1, .int c1), (4, .int c4), (5, .int c5), (7, .int x11)]) [0, 1, 2, 3, 5] rfl ?_
                exact hk21
              · refine r_iconst (pc := 102) C dX12_layList_102 (v := 1) (by decide) ?_
                refine r_goto 107 (pc := 103) C dX12_layList_103 (by decide) ?_
                refine r_sub (lv' := [(0, .ref (q 0)), (1, .int c1), (4, .int c4), (5, .int c5), (7, .int x11)]) [0, 1, 2, 3, 5] rfl ?_
                exact hk19 1
set_option maxRecDepth 100000 in
theorem v_X12_layList_34 {S0 : MS} {S : MS} {c1 : Int32} {c4 : Int32} {c5 : Int32} (hS : (fI [20] [18, 19] S0) S) {k14 : Int32 → Option (MS)} (hk15 : ∀ (x25 : Int32), (fI [20] [18, 19] S0) S → jf (fI [20] [18, 19] S0) id (k14 x25)) : ∀ (n : Nat) (x10 : Int32) (x11 : Int32), (fI [20] [18, 19] S0) S → jf (fI [20] [18, 19] S0) id (L_X12_layList_34 S c1 c4 c5 k14 n x10 x11) := by
  refine f_lo2 (I := (fI [20] [18, 19] S0)) (fun x10 x11 => S) (fun rec12 ih13 x10 x11 hS => ?_)
  refine f_ite ?_ ?_
  · exact hk15 x10 hS
  · refine f_jm1 hS (fun x16 hS => ?_) (fun k18 hk19 => ?_)
    · refine f_lt (fun x17 => ?_)
      exact ih13 x16 x17 hS
    · refine f_jm0 hS (fun  hS => ?_) (fun k20 hk21 => ?_)
      · exact hk19 0 hS
      · refine f_ite ?_ ?_
        · exact hk21 hS
        · refine f_chk ?_
          refine f_bp (fun x22 => ?_)
          refine f_chk ?_
          refine f_bp (fun x23 => ?_)
          refine f_ite ?_ ?_
          · refine f_ite ?_ ?_
            · exact hk19 1 hS
            · refine f_chk ?_
              refine f_chk ?_
              refine f_bp (fun x24 => ?_)
              refine f_ite ?_ ?_
              · exact hk19 1 hS
              · exact hk21 hS
          · exact hk19 1 hS
def L_X12_layList_129 (c1 : Int32) (c5 : Int32) (k32 : MS → Int32 → Option (MS)) : Nat → MS → Int32 → Option (MS) := lo2 fun rec30 S29 x28 =>
  (if x28 ≤ 0 then
  k32 S29 x28
 else
  chk c5 60 (
  chk (x28 - 1) 60 (
  bp (f_X12_isFore S29 c1 (S29.2 18 c5.toNatClampNeg) (S29.2 19 (x28 - 1).toNatClampNeg)) (fun x34 =>
  (if x34 = true then
  chk (x28 - 1) 60 (
  chk x28 60 (lt (sa S29 19 (upd (S29.2 19) x28.toNatClampNeg (S29.2 19 (x28 - 1).toNatClampNeg))) fun S35 =>
  lt (x28 + (-1)) fun x36 =>
  rec30 S35 x36))
 else
  k32 S29 x28)))))
set_option maxRecDepth 100000 in
set_option maxHeartbeats 4000000 in
theorem l_X12_layList_129 {X : KX} {g : KG} {q : Nat → Nat} {res : MS} (C : kC X g cX12_layList "MarkChainsModel" rm_X12_layList 8) (hR : ∀ (pc : Nat) (lv : List (Nat × Value)), decode cX12_layList pc = .ok (.return_, 1) → jW X g (mw g q res) 0 0 pc lv []) (c1 : Int32) (c4 : Int32) (c5 : Int32) (k32 : MS → Int32 → Option (MS)) (hk33 : ∀ (S37 : MS) (x38 : Int32), jJ X g res (mw g q S37) 0 0 180 [(0, .ref (q 0)), (1, .int c1), (4, .int c4), (5, .int c5), (7, .int x38)] [] (k32 S37 x38)) : ∀ (n : Nat) (S29 : MS) (x28 : Int32), jJ X g res (mw g q S29) 0 0 129 [(0, .ref (q 0)), (1, .int c1), (4, .int c4), (5, .int c5), (7, .int x28)] [] (L_X12_layList_129 c1 c5 k32 n S29 x28) := by
  refine r_lo2 (fun S29 x28 => mw g q S29) (fun S29 x28 => [(0, .ref (q 0)), (1, .int c1), (4, .int c4), (5, .int c5), (7, .int x28)]) (fun rec30 ih31 S29 x28 => ?_)
  refine r_iload (pc := 129) C dX12_layList_129 4 rfl ?_
  refine r_if_le 180 (pc := 131) C dX12_layList_131 (by decide) ?_ ?_
  · exact hk33 S29 x28
  · refine r_aload_n (pc := 134) C dX12_layList_134 0 rfl ?_
    refine r_iload_n (pc := 135) C dX12_layList_135 1 rfl ?_
    refine r_aload_n (pc := 136) C dX12_layList_136 0 rfl ?_
    refine mg_order (pc := 137) C dX12_layList_137 ?_
    refine r_iload (pc := 140) C dX12_layList_140 3 rfl ?_
    refine ml_order (pc := 142) C dX12_layList_142 ?_
    refine r_aload_n (pc := 143) C dX12_layList_143 0 rfl ?_
    refine mg_link (pc := 144) C dX12_layList_144 ?_
    refine r_iload (pc := 147) C dX12_layList_147 4 rfl ?_
    refine r_iconst (pc := 149) C dX12_layList_149 (v := 1) (by decide) ?_
    refine r_isub (pc := 150) C dX12_layList_150 ?_
    refine ml_link (pc := 151) C dX12_layList_151 ?_
    refine r_cVpz (As := [.int c1, .int (S29.2 18 c5.toNatClampNeg), .int (S29.2 19 (x28 - 1).toNatClampNeg)]) (st := []) (pc := 152) C (fun _ h => c_X12_isFore h) kY_X12_isFore kw_7_182 kw_0_84 kw_7_180 rfl ⟨Nat.le_of_ble_eq_true rfl, Nat.le_of_ble_eq_true rfl⟩ rfl rfl ⟨Nat.zero_le _, Nat.zero_le _⟩ 0 rfl rfl rfl (Nat.le_of_ble_eq_true rfl) dX12_layList_152 (fun x34 => ?_)
    refine r_ifb_eq 180 (pc := 155) C dX12_layList_155 (by decide) ?_ ?_
    · exact hk33 S29 x28
    · refine r_aload_n (pc := 158) C dX12_layList_158 0 rfl ?_
      refine mg_link (pc := 159) C dX12_layList_159 ?_
      refine r_iload (pc := 162) C dX12_layList_162 4 rfl ?_
      refine r_aload_n (pc := 164) C dX12_layList_164 0 rfl ?_
      refine mg_link (pc := 165) C dX12_layList_165 ?_
      refine r_iload (pc := 168) C dX12_layList_168 4 rfl ?_
      refine r_iconst (pc := 170) C dX12_layList_170 (v := 1) (by decide) ?_
      refine r_isub (pc := 171) C dX12_layList_171 ?_
      refine ml_link (pc := 172) C dX12_layList_172 ?_
      refine ms_link (pc := 173) C dX12_layList_173 (fun S35 => ?_)
      refine r_iinc (pc := 174) C dX12_layList_174 (v := (-1)) (lv' := fun x36 => [(0, .ref (q 0)), (1, .int c1), (4, .int c4), (5, .int c5), (7, .int x36)]) 4 rfl (by decide) (by decide) [1, 2, 3, 4, 0] (fun _ => rfl) (fun x36 => ?_)
      refine r_goto 129 (pc := 177) C dX12_layList_177 (by decide) ?_
      exact ih31 S35 x36
set_option maxRecDepth 100000 in
theorem v_X12_layList_129 {S0 : MS} {c1 : Int32} {c5 : Int32} {k32 : MS → Int32 → Option (MS)} (hk33 : ∀ (S37 : MS) (x38 : Int32), (fI [20] [18, 19] S0) S37 → jf (fI [20] [18, 19] S0) id (k32 S37 x38)) : ∀ (n : Nat) (S29 : MS) (x28 : Int32), (fI [20] [18, 19] S0) S29 → jf (fI [20] [18, 19] S0) id (L_X12_layList_129 c1 c5 k32 n S29 x28) := by
  refine f_lo2 (I := (fI [20] [18, 19] S0)) (fun S29 x28 => S29) (fun rec30 ih31 S29 x28 hS29 => ?_)
  refine f_ite ?_ ?_
  · exact hk33 S29 x28 hS29
  · refine f_chk ?_
    refine f_chk ?_
    refine f_bp (fun x34 => ?_)
    refine f_ite ?_ ?_
    · refine f_chk ?_
      refine f_chk (f_ltS (fI_sa hS29 (by decide)) (fun S35 hS35 => ?_))
      refine f_lt (fun x36 => ?_)
      exact ih31 S35 x36 hS35
    · exact hk33 S29 x28 hS29
def L_X12_layList_21 (c1 : Int32) (c4 : Int32) (k8 : MS → Option (MS)) : Nat → MS → Int32 → Option (MS) := lo2 fun rec6 S5 x4 =>
  (if c4 ≤ x4 then
  k8 S5
 else
  L_X12_layList_34 S5 c1 c4 x4 (fun x26 =>
  (if x26 = 0 then
  lt (x4 + 1) fun x44 =>
  rec6 S5 x44
 else
  lt (S5.1 20) fun x27 =>
  L_X12_layList_129 c1 x4 (fun S39 x40 =>
  chk x4 60 (
  chk x40 60 (lt (sa S39 19 (upd (S39.2 19) x40.toNatClampNeg (S39.2 18 x4.toNatClampNeg))) fun S41 =>
  lt (si S41 20 ((S41.1 20) + 1)) fun S42 =>
  lt (x4 + 1) fun x43 =>
  rec6 S42 x43))) FU S5 x27)) FU 1 0)
set_option maxRecDepth 100000 in
set_option maxHeartbeats 4000000 in
theorem l_X12_layList_21 {X : KX} {g : KG} {q : Nat → Nat} {res : MS} (C : kC X g cX12_layList "MarkChainsModel" rm_X12_layList 8) (hR : ∀ (pc : Nat) (lv : List (Nat × Value)), decode cX12_layList pc = .ok (.return_, 1) → jW X g (mw g q res) 0 0 pc lv []) (c1 : Int32) (c4 : Int32) (k8 : MS → Option (MS)) (hk9 : ∀ (S45 : MS), jJ X g res (mw g q S45) 0 0 210 [] [] (k8 S45)) : ∀ (n : Nat) (S5 : MS) (x4 : Int32), jJ X g res (mw g q S5) 0 0 21 [(0, .ref (q 0)), (1, .int c1), (4, .int c4), (5, .int x4)] [] (L_X12_layList_21 c1 c4 k8 n S5 x4) := by
  refine r_lo2 (fun S5 x4 => mw g q S5) (fun S5 x4 => [(0, .ref (q 0)), (1, .int c1), (4, .int c4), (5, .int x4)]) (fun rec6 ih7 S5 x4 => ?_)
  refine r_iload (pc := 21) C dX12_layList_21 3 rfl ?_
  refine r_iload (pc := 23) C dX12_layList_23 2 rfl ?_
  refine r_icmp_ge 210 (pc := 25) C dX12_layList_25 (by decide) ?_ ?_
  · refine r_sub (lv' := []) [] rfl ?_
    exact hk9 S5
  · refine r_iconst (pc := 28) C dX12_layList_28 (v := 1) (by decide) ?_
    refine r_istore (pc := 29) C dX12_layList_29 (lv' := [(0, .ref (q 0)), (1, .int c1), (4, .int c4), (5, .int x4), (6, .int 1)]) (by decide) [1, 2, 3, 4, 0] rfl ?_
    refine r_iconst (pc := 31) C dX12_layList_31 (v := 0) (by decide) ?_
    refine r_istore (pc := 32) C dX12_layList_32 (lv' := [(0, .ref (q 0)), (1, .int c1), (4, .int c4), (5, .int x4), (6, .int 1), (7, .int 0)]) (by decide) [1, 2, 3, 4, 5, 0] rfl ?_
    refine l_X12_layList_34 C hR c1 c4 x4 _ (fun x26 => ?_) FU 1 0
    refine r_iload (pc := 115) C dX12_layList_115 4 rfl ?_
    refine r_if_ne 123 (pc := 117) C dX12_layList_117 (by decide) ?_ ?_
    · refine r_aload_n (pc := 123) C dX12_layList_123 0 rfl ?_
      refine mg_links (pc := 124) C dX12_layList_124 ?_
      refine r_istoreV (pc := 127) C dX12_layList_127 (lv' := fun x27 => [(0, .ref (q 0)), (1, .int c1), (4, .int c4), (5, .int x4), (6, .int x26), (7, .int x27)]) (by decide) [1, 2, 3, 4, 5, 0] (fun _ => rfl) (fun x27 => ?_)
      refine r_sub (lv' := [(0, .ref (q 0)), (1, .int c1), (4, .int c4), (5, .int x4), (7, .int x27)]) [0, 1, 2, 3, 5] rfl ?_
      refine l_X12_layList_129 C hR c1 c4 x4 _ (fun S39 x40 => ?_) FU S5 x27
      refine r_aload_n (pc := 180) C dX12_layList_180 0 rfl ?_
      refine mg_link (pc := 181) C dX12_layList_181 ?_
      refine r_iload (pc := 184) C dX12_layList_184 4 rfl ?_
      refine r_aload_n (pc := 186) C dX12_layList_186 0 rfl ?_
      refine mg_order (pc := 187) C dX12_layList_187 ?_
      refine r_iload (pc := 190) C dX12_layList_190 3 rfl ?_
      refine ml_order (pc := 192) C dX12_layList_192 ?_
      refine ms_link (pc := 193) C dX12_layList_193 (fun S41 => ?_)
      refine r_aload_n (pc := 194) C dX12_layList_194 0 rfl ?_
      refine r_dup (pc := 195) C dX12_layList_195 rfl ?_
      refine mg_links (pc := 196) C dX12_layList_196 ?_
      refine r_iconst (pc := 199) C dX12_layList_199 (v := 1) (by decide) ?_
      refine r_iadd (pc := 200) C dX12_layList_200 ?_
      refine mp_links (pc := 201) C dX12_layList_201 (fun S42 => ?_)
      refine r_iinc (pc := 204) C dX12_layList_204 (v := 1) (lv' := fun x43 => [(0, .ref (q 0)), (1, .int c1), (4, .int c4), (5, .int x43), (7, .int x40)]) 3 rfl (by decide) (by decide) [1, 2, 3, 0, 4] (fun _ => rfl) (fun x43 => ?_)
      refine r_goto 21 (pc := 207) C dX12_layList_207 (by decide) ?_
      refine r_sub (lv' := [(0, .ref (q 0)), (1, .int c1), (4, .int c4), (5, .int x43)]) [0, 1, 2, 3] rfl ?_
      exact ih7 S42 x43
    · refine r_goto 204 (pc := 120) C dX12_layList_120 (by decide) ?_
      refine r_iinc (pc := 204) C dX12_layList_204 (v := 1) (lv' := fun x44 => [(0, .ref (q 0)), (1, .int c1), (4, .int c4), (5, .int x44), (6, .int x26)]) 3 rfl (by decide) (by decide) [1, 2, 3, 0, 4] (fun _ => rfl) (fun x44 => ?_)
      refine r_goto 21 (pc := 207) C dX12_layList_207 (by decide) ?_
      refine r_sub (lv' := [(0, .ref (q 0)), (1, .int c1), (4, .int c4), (5, .int x44)]) [0, 1, 2, 3] rfl ?_
      exact ih7 S5 x44
set_option maxRecDepth 100000 in
theorem v_X12_layList_21 {S0 : MS} {c1 : Int32} {c4 : Int32} {k8 : MS → Option (MS)} (hk9 : ∀ (S45 : MS), (fI [20] [18, 19] S0) S45 → jf (fI [20] [18, 19] S0) id (k8 S45)) : ∀ (n : Nat) (S5 : MS) (x4 : Int32), (fI [20] [18, 19] S0) S5 → jf (fI [20] [18, 19] S0) id (L_X12_layList_21 c1 c4 k8 n S5 x4) := by
  refine f_lo2 (I := (fI [20] [18, 19] S0)) (fun S5 x4 => S5) (fun rec6 ih7 S5 x4 hS5 => ?_)
  refine f_ite ?_ ?_
  · exact hk9 S5 hS5
  · refine v_X12_layList_34 hS5 (fun x26 hS5 => ?_) FU 1 0 hS5
    refine f_ite ?_ ?_
    · refine f_lt (fun x44 => ?_)
      exact ih7 S5 x44 hS5
    · refine f_lt (fun x27 => ?_)
      refine v_X12_layList_129 (fun S39 x40 hS39 => ?_) FU S5 x27 hS5
      refine f_chk ?_
      refine f_chk (f_ltS (fI_sa hS39 (by decide)) (fun S41 hS41 => ?_))
      refine f_ltS (fI_si hS41 (by decide)) (fun S42 hS42 => ?_)
      refine f_lt (fun x43 => ?_)
      exact ih7 S42 x43 hS42
def f_X12_layList (S : MS) (a1 : Int32) (a2 : Int32) (a3 : Int32) : Option (MS) :=
  bp (f_X12_layOrder S a1 a2 a3) (fun S1 =>
  lt (S1.1 20) fun x2 =>
  lt (si S1 20 0) fun S3 =>
  L_X12_layList_21 a1 x2 (fun S46 =>
  some S46) FU S3 0)
set_option maxRecDepth 100000 in
set_option maxHeartbeats 4000000 in
theorem c_X12_layList {g : KG} {q : Nat → Nat} {S : MS} {a1 : Int32} {a2 : Int32} {a3 : Int32} {S' : MS} (h : f_X12_layList S a1 a2 a3 = some S') : ∀ l, kM l yX12_layList cX12_layList 8 none rm_X12_layList g [.ref (q 0), .int a1, .int a2, .int a3] (mw g q S) (mw g q S') (none) 0 0 := by
  refine k_open_v (own := "MarkChainsModel") (by decide) rfl (Nat.le_of_ble_eq_true rfl) (fun X C hR => ?_)
  refine (?_ : jJ X g (S' : MS) (mw g q S) 0 0 0 [(0, .ref (q 0)), (1, .int a1), (2, .int a2), (3, .int a3)] [] (f_X12_layList S a1 a2 a3)) h
  unfold f_X12_layList
  refine r_aload_n (pc := 0) C dX12_layList_0 0 rfl ?_
  refine r_iload_n (pc := 1) C dX12_layList_1 1 rfl ?_
  refine r_iload_n (pc := 2) C dX12_layList_2 2 rfl ?_
  refine r_iload_n (pc := 3) C dX12_layList_3 3 rfl ?_
  refine r_cVwv (As := [.int a1, .int a2, .int a3]) (st := []) (wf := mw g q) (pc := 4) C (fun _ h => c_X12_layOrder h) kY_X12_layOrder kw_7_110 kw_0_73 kw_7_108 rfl ⟨Nat.le_of_ble_eq_true rfl, Nat.le_of_ble_eq_true rfl⟩ rfl rfl ⟨Nat.zero_le _, Nat.zero_le _⟩ 0 rfl rfl rfl (Nat.le_of_ble_eq_true rfl) dX12_layList_4 (fun S1 => ?_)
  refine r_aload_n (pc := 7) C dX12_layList_7 0 rfl ?_
  refine mg_links (pc := 8) C dX12_layList_8 ?_
  refine r_istoreV (pc := 11) C dX12_layList_11 (lv' := fun x2 => [(0, .ref (q 0)), (1, .int a1), (2, .int a2), (3, .int a3), (4, .int x2)]) (by decide) [1, 2, 3, 4, 0] (fun _ => rfl) (fun x2 => ?_)
  refine r_aload_n (pc := 13) C dX12_layList_13 0 rfl ?_
  refine r_iconst (pc := 14) C dX12_layList_14 (v := 0) (by decide) ?_
  refine mp_links (pc := 15) C dX12_layList_15 (fun S3 => ?_)
  refine r_iconst (pc := 18) C dX12_layList_18 (v := 0) (by decide) ?_
  refine r_istore (pc := 19) C dX12_layList_19 (lv' := [(0, .ref (q 0)), (1, .int a1), (2, .int a2), (3, .int a3), (4, .int x2), (5, .int 0)]) (by decide) [1, 2, 3, 4, 5, 0] rfl ?_
  refine r_sub (lv' := [(0, .ref (q 0)), (1, .int a1), (4, .int x2), (5, .int 0)]) [0, 1, 4, 5] rfl ?_
  refine l_X12_layList_21 C hR a1 x2 _ (fun S46 => ?_) FU S3 0
  exact r_retWV (wf := mw g q) hR (pc := 210) dX12_layList_210
set_option maxRecDepth 100000 in
theorem w_X12_layList {S : MS} {a1 : Int32} {a2 : Int32} {a3 : Int32} {S' : MS} (h : f_X12_layList S a1 a2 a3 = some S') : fI [20] [18, 19] S S' := by
  have hS : fI [20] [18, 19] S S := fI_rf
  refine (?_ : jf (fI [20] [18, 19] S) id (f_X12_layList S a1 a2 a3)) _ h
  unfold f_X12_layList
  refine f_bpS (fun _ h => fI_tr hS (w_X12_layOrder h) (by decide) (by decide)) (fun S1 hS1 => ?_)
  refine f_lt (fun x2 => ?_)
  refine f_ltS (fI_si hS1 (by decide)) (fun S3 hS3 => ?_)
  refine v_X12_layList_21 (fun S46 hS46 => ?_) FU S3 0 hS3
  exact f_some hS46
