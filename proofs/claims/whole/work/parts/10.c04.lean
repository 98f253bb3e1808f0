abbrev rm_X11_record : Room := { frames := 5, cells := 0, slots := 0, locals := 117 }
theorem kY_X11_record : kY yX11_record cX11_record 4 (some .int) 3 := ⟨kw_1_1, kw_4_148, by decide, by decide, by decide +kernel⟩
def f_X11_record (S : CS) (a1 : Int32) (a2 : Int32) (a3 : Int32) : Option (Int32 × CS) :=
  bw (f_X11_fillChain S a1 a2 a3) (fun x1 S2 =>
  (if x1 = true then
  bp (f_X7_lastValue_l1 S2) (fun x3 =>
  some (x3, S2))
 else
  some ((-2), S2)))
set_option maxRecDepth 100000 in
set_option maxHeartbeats 4000000 in
theorem c_X11_record {g : KG} {q : Nat → Nat} {E : va_W} {S : CS} {a1 : Int32} {a2 : Int32} {a3 : Int32} {r : Int32} {S' : CS} (h : f_X11_record S a1 a2 a3 = some (r, S')) : ∀ l, kM l yX11_record cX11_record 4 (some .int) rm_X11_record g [.ref (q 0), .int a1, .int a2, .int a3] (cx g q E S) (cx g q E S') (some (.int r)) 0 0 := by
  refine k_open_i (own := "MarkChains") (by decide) rfl (Nat.le_of_ble_eq_true rfl) (fun X C hR => ?_)
  refine (?_ : jJ X g ((r, S') : Int32 × CS) (cx g q E S) 0 0 0 [(0, .ref (q 0)), (1, .int a1), (2, .int a2), (3, .int a3)] [] (f_X11_record S a1 a2 a3)) h
  unfold f_X11_record
  refine r_aload_n (pc := 0) C dX11_record_0 0 rfl ?_
  refine r_iload_n (pc := 1) C dX11_record_1 1 rfl ?_
  refine r_iload_n (pc := 2) C dX11_record_2 2 rfl ?_
  refine r_iload_n (pc := 3) C dX11_record_3 3 rfl ?_
  refine r_cVwz (As := [.int a1, .int a2, .int a3]) (st := []) (wf := cx g q E) (pc := 4) C (fun _ _ h => c_X11_fillChain h) kY_X11_fillChain kw_4_107 kw_0_24 kw_4_105 rfl ⟨Nat.le_of_ble_eq_true rfl, Nat.le_of_ble_eq_true rfl⟩ rfl rfl ⟨Nat.zero_le _, Nat.zero_le _⟩ 0 rfl rfl rfl (Nat.le_of_ble_eq_true rfl) dX11_record_4 (fun x1 S2 => ?_)
  refine r_ifb_ne 13 (pc := 7) C dX11_record_7 (by decide) ?_ ?_
  · refine r_aload_n (pc := 13) C dX11_record_13 0 rfl ?_
    refine xg_x_line (pc := 14) C kw_2_80 dX11_record_14 ?_
    refine r_cVpi (As := []) (st := []) (pc := 17) C (fun _ h => c_X7_lastValue_l1 h) kY_X7_lastValue kw_4_150 kw_4_151 kw_4_149 rfl ⟨Nat.le_of_ble_eq_true rfl, Nat.le_of_ble_eq_true rfl⟩ rfl rfl ⟨Nat.zero_le _, Nat.zero_le _⟩ 35 rfl rfl rfl (Nat.le_of_ble_eq_true rfl) dX11_record_17 (fun x3 => ?_)
    exact r_retWI (wf := cx g q E) hR (pc := 20) dX11_record_20
  · refine r_bipush (pc := 10) C dX11_record_10 (v := (-2)) (by decide) ?_
    exact r_retWI (wf := cx g q E) hR (pc := 12) dX11_record_12
set_option maxRecDepth 100000 in
theorem w_X11_record {S : CS} {a1 : Int32} {a2 : Int32} {a3 : Int32} {r : Int32} {S' : CS} (h : f_X11_record S a1 a2 a3 = some (r, S')) : gI [21] [37] S S' := by
  have hS : gI [21] [37] S S := gI_rf
  refine (?_ : jf (gI [21] [37] S) Prod.snd (f_X11_record S a1 a2 a3)) _ h
  unfold f_X11_record
  refine f_bwS (fun _ _ h => gI_tr hS (w_X11_fillChain h) (by decide) (by decide)) (fun x1 S2 hS2 => ?_)
  refine f_ite ?_ ?_
  · refine f_bp (fun x3 => ?_)
    exact f_some hS2
  · exact f_some hS2
abbrev rm_X7_holderBits_l1 : Room := { frames := 1, cells := 0, slots := 0, locals := 20 }
theorem kY_X7_holderBits : kY yX7_holderBits cX7_holderBits 4 (some .int) 0 := ⟨kw_1_10, kw_4_160, by decide, by decide, by decide +kernel⟩
def L_X7_holderBits_l1_14 (S : CS) (c2 : Int32) (k7 : Int32 → Option (Int32)) : Nat → Int32 → Int32 → Option (Int32) := lo2 fun rec5 x3 x4 =>
  (if x4 < 0 then
  k7 x3
 else
  chk x4 60 (
  chk (S.2.1 37 x4.toNatClampNeg) 60 (
  (if (S.2.1 18 (S.2.1 37 x4.toNatClampNeg).toNatClampNeg) = c2 then
  chk x4 60 (
  chk (S.2.1 37 x4.toNatClampNeg) 60 (
  lt (x3 ||| ((1 : Int32) <<< ((S.2.1 14 (S.2.1 37 x4.toNatClampNeg).toNatClampNeg) &&& 31))) fun x9 =>
  lt (x4 + (-1)) fun x10 =>
  rec5 x9 x10))
 else
  k7 x3))))
set_option maxRecDepth 100000 in
set_option maxHeartbeats 4000000 in
theorem l_X7_holderBits_l1_14 {X : KX} {g : KG} {q : Nat → Nat} {E : va_W} {res : Int32} {S : CS} (C : kC X g cX7_holderBits "MarkChains$Line" rm_X7_holderBits_l1 4) (hR : ∀ (pc : Nat) (lv : List (Nat × Value)), decode cX7_holderBits pc = .ok (.ireturn, 1) → jW X g (cx g q E S) 0 0 pc lv [.int res]) (c2 : Int32) (k7 : Int32 → Option (Int32)) (hk8 : ∀ (x11 : Int32), jJ X g res (cx g q E S) 0 0 61 [(1, .int x11)] [] (k7 x11)) : ∀ (n : Nat) (x3 : Int32) (x4 : Int32), jJ X g res (cx g q E S) 0 0 14 [(0, .ref (q 36)), (1, .int x3), (2, .int c2), (3, .int x4)] [] (L_X7_holderBits_l1_14 S c2 k7 n x3 x4) := by
  refine r_lo2 (fun x3 x4 => cx g q E S) (fun x3 x4 => [(0, .ref (q 36)), (1, .int x3), (2, .int c2), (3, .int x4)]) (fun rec5 ih6 x3 x4 => ?_)
  refine r_iload_n (pc := 14) C dX7_holderBits_14 3 rfl ?_
  refine r_if_lt 61 (pc := 15) C dX7_holderBits_15 (by decide) ?_ ?_
  · refine r_sub (lv' := [(1, .int x3)]) [1] rfl ?_
    exact hk8 x3
  · refine r_aload_n (pc := 18) C dX7_holderBits_18 0 rfl ?_
    refine xg_l1_book (pc := 19) C kw_2_25 dX7_holderBits_19 ?_
    refine xgN_bk_value (pc := 22) C knf_23 dX7_holderBits_22 ?_
    refine r_aload_n (pc := 25) C dX7_holderBits_25 0 rfl ?_
    refine xg_l1_numbers (pc := 26) C kw_2_26 dX7_holderBits_26 ?_
    refine r_iload_n (pc := 29) C dX7_holderBits_29 3 rfl ?_
    refine xl_l1_numbers (pc := 30) C dX7_holderBits_30 ?_
    refine xl_bk_value (pc := 31) C dX7_holderBits_31 ?_
    refine r_iload_n (pc := 32) C dX7_holderBits_32 2 rfl ?_
    refine r_icmp_ne 61 (pc := 33) C dX7_holderBits_33 (by decide) ?_ ?_
    · refine r_sub (lv' := [(1, .int x3)]) [1] rfl ?_
      exact hk8 x3
    · refine r_iload_n (pc := 36) C dX7_holderBits_36 1 rfl ?_
      refine r_iconst (pc := 37) C dX7_holderBits_37 (v := 1) (by decide) ?_
      refine r_aload_n (pc := 38) C dX7_holderBits_38 0 rfl ?_
      refine xg_l1_book (pc := 39) C kw_2_25 dX7_holderBits_39 ?_
      refine xgN_bk_athlete (pc := 42) C knf_18 dX7_holderBits_42 ?_
      refine r_aload_n (pc := 45) C dX7_holderBits_45 0 rfl ?_
      refine xg_l1_numbers (pc := 46) C kw_2_26 dX7_holderBits_46 ?_
      refine r_iload_n (pc := 49) C dX7_holderBits_49 3 rfl ?_
      refine xl_l1_numbers (pc := 50) C dX7_holderBits_50 ?_
      refine xl_bk_athlete (pc := 51) C dX7_holderBits_51 ?_
      refine r_ishl (pc := 52) C dX7_holderBits_52 ?_
      refine r_ior (pc := 53) C dX7_holderBits_53 ?_
      refine r_istoreV_n (pc := 54) C dX7_holderBits_54 (lv' := fun x9 => [(0, .ref (q 36)), (1, .int x9), (2, .int c2), (3, .int x4)]) (by decide) [1, 0, 2, 3] (fun _ => rfl) (fun x9 => ?_)
      refine r_iinc (pc := 55) C dX7_holderBits_55 (v := (-1)) (lv' := fun x10 => [(0, .ref (q 36)), (1, .int x9), (2, .int c2), (3, .int x10)]) 3 rfl (by decide) (by decide) [1, 2, 3, 0] (fun _ => rfl) (fun x10 => ?_)
      refine r_goto 14 (pc := 58) C dX7_holderBits_58 (by decide) ?_
      exact ih6 x9 x10
def f_X7_holderBits_l1 (S : CS) : Option (Int32) :=
  bp (f_X7_lastValue_l1 S) (fun x1 =>
  lt ((S.1 21) - 1) fun x2 =>
  L_X7_holderBits_l1_14 S x1 (fun x12 =>
  some x12) FU 0 x2)
set_option maxRecDepth 100000 in
set_option maxHeartbeats 4000000 in
theorem c_X7_holderBits_l1 {g : KG} {q : Nat → Nat} {E : va_W} {S : CS}  {r : Int32} (h : f_X7_holderBits_l1 S = some r) : ∀ l, kM l yX7_holderBits cX7_holderBits 4 (some .int) rm_X7_holderBits_l1 g [.ref (q 36)] (cx g q E S) (cx g q E S) (some (.int r)) 0 0 := by
  refine k_open_i (own := "MarkChains$Line") (by decide) rfl (Nat.le_of_ble_eq_true rfl) (fun X C hR => ?_)
  refine (?_ : jJ X g (r : Int32) (cx g q E S) 0 0 0 [(0, .ref (q 36))] [] (f_X7_holderBits_l1 S)) h
  unfold f_X7_holderBits_l1
  refine r_iconst (pc := 0) C dX7_holderBits_0 (v := 0) (by decide) ?_
  refine r_istore_n (pc := 1) C dX7_holderBits_1 (lv' := [(0, .ref (q 36)), (1, .int 0)]) (by decide) [1, 0] rfl ?_
  refine r_aload_n (pc := 2) C dX7_holderBits_2 0 rfl ?_
  refine r_cVpi (As := []) (st := []) (pc := 3) C (fun _ h => c_X7_lastValue_l1 h) kY_X7_lastValue kw_4_150 kw_4_151 kw_4_161 rfl ⟨Nat.le_of_ble_eq_true rfl, Nat.le_of_ble_eq_true rfl⟩ rfl rfl ⟨Nat.zero_le _, Nat.zero_le _⟩ 35 rfl rfl rfl (Nat.le_of_ble_eq_true rfl) dX7_holderBits_3 (fun x1 => ?_)
  refine r_istore_n (pc := 6) C dX7_holderBits_6 (lv' := [(0, .ref (q 36)), (1, .int 0), (2, .int x1)]) (by decide) [1, 2, 0] rfl ?_
  refine r_aload_n (pc := 7) C dX7_holderBits_7 0 rfl ?_
  refine xg_l1_size (pc := 8) C kw_2_29 dX7_holderBits_8 ?_
  refine r_iconst (pc := 11) C dX7_holderBits_11 (v := 1) (by decide) ?_
  refine r_isub (pc := 12) C dX7_holderBits_12 ?_
  refine r_istoreV_n (pc := 13) C dX7_holderBits_13 (lv' := fun x2 => [(0, .ref (q 36)), (1, .int 0), (2, .int x1), (3, .int x2)]) (by decide) [1, 2, 3, 0] (fun _ => rfl) (fun x2 => ?_)
  refine l_X7_holderBits_l1_14 C hR x1 _ (fun x12 => ?_) FU 0 x2
  refine r_iload_n (pc := 61) C dX7_holderBits_61 0 rfl ?_
  exact r_retPI hR (pc := 62) dX7_holderBits_62
abbrev rm_X11_holders : Room := { frames := 5, cells := 0, slots := 0, locals := 117 }
theorem kY_X11_holders : kY yX11_holders cX11_holders 4 (some .int) 3 := ⟨kw_1_1, kw_4_156, by decide, by decide, by decide +kernel⟩
def f_X11_holders (S : CS) (a1 : Int32) (a2 : Int32) (a3 : Int32) : Option (Int32 × CS) :=
  bw (f_X11_fillChain S a1 a2 a3) (fun x1 S2 =>
  (if x1 = true then
  bp (f_X7_holderBits_l1 S2) (fun x3 =>
  some (x3, S2))
 else
  some ((-2), S2)))
set_option maxRecDepth 100000 in
set_option maxHeartbeats 4000000 in
theorem c_X11_holders {g : KG} {q : Nat → Nat} {E : va_W} {S : CS} {a1 : Int32} {a2 : Int32} {a3 : Int32} {r : Int32} {S' : CS} (h : f_X11_holders S a1 a2 a3 = some (r, S')) : ∀ l, kM l yX11_holders cX11_holders 4 (some .int) rm_X11_holders g [.ref (q 0), .int a1, .int a2, .int a3] (cx g q E S) (cx g q E S') (some (.int r)) 0 0 := by
  refine k_open_i (own := "MarkChains") (by decide) rfl (Nat.le_of_ble_eq_true rfl) (fun X C hR => ?_)
  refine (?_ : jJ X g ((r, S') : Int32 × CS) (cx g q E S) 0 0 0 [(0, .ref (q 0)), (1, .int a1), (2, .int a2), (3, .int a3)] [] (f_X11_holders S a1 a2 a3)) h
  unfold f_X11_holders
  refine r_aload_n (pc := 0) C dX11_holders_0 0 rfl ?_
  refine r_iload_n (pc := 1) C dX11_holders_1 1 rfl ?_
  refine r_iload_n (pc := 2) C dX11_holders_2 2 rfl ?_
  refine r_iload_n (pc := 3) C dX11_holders_3 3 rfl ?_
  refine r_cVwz (As := [.int a1, .int a2, .int a3]) (st := []) (wf := cx g q E) (pc := 4) C (fun _ _ h => c_X11_fillChain h) kY_X11_fillChain kw_4_107 kw_0_24 kw_4_105 rfl ⟨Nat.le_of_ble_eq_true rfl, Nat.le_of_ble_eq_true rfl⟩ rfl rfl ⟨Nat.zero_le _, Nat.zero_le _⟩ 0 rfl rfl rfl (Nat.le_of_ble_eq_true rfl) dX11_holders_4 (fun x1 S2 => ?_)
  refine r_ifb_ne 13 (pc := 7) C dX11_holders_7 (by decide) ?_ ?_
  · refine r_aload_n (pc := 13) C dX11_holders_13 0 rfl ?_
    refine xg_x_line (pc := 14) C kw_2_80 dX11_holders_14 ?_
    refine r_cVpi (As := []) (st := []) (pc := 17) C (fun _ h => c_X7_holderBits_l1 h) kY_X7_holderBits kw_4_158 kw_4_159 kw_4_157 rfl ⟨Nat.le_of_ble_eq_true rfl, Nat.le_of_ble_eq_true rfl⟩ rfl rfl ⟨Nat.zero_le _, Nat.zero_le _⟩ 35 rfl rfl rfl (Nat.le_of_ble_eq_true rfl) dX11_holders_17 (fun x3 => ?_)
    exact r_retWI (wf := cx g q E) hR (pc := 20) dX11_holders_20
  · refine r_bipush (pc := 10) C dX11_holders_10 (v := (-2)) (by decide) ?_
    exact r_retWI (wf := cx g q E) hR (pc := 12) dX11_holders_12
set_option maxRecDepth 100000 in
theorem w_X11_holders {S : CS} {a1 : Int32} {a2 : Int32} {a3 : Int32} {r : Int32} {S' : CS} (h : f_X11_holders S a1 a2 a3 = some (r, S')) : gI [21] [37] S S' := by
  have hS : gI [21] [37] S S := gI_rf
  refine (?_ : jf (gI [21] [37] S) Prod.snd (f_X11_holders S a1 a2 a3)) _ h
  unfold f_X11_holders
  refine f_bwS (fun _ _ h => gI_tr hS (w_X11_fillChain h) (by decide) (by decide)) (fun x1 S2 hS2 => ?_)
  refine f_ite ?_ ?_
  · refine f_bp (fun x3 => ?_)
    exact f_some hS2
  · exact f_some hS2
abbrev rm_X7_isTie_l1 : Room := { frames := 0, cells := 0, slots := 0, locals := 0 }
theorem kY_X7_isTie : kY yX7_isTie cX7_isTie 2 (some .boolean) 1 := ⟨kw_1_10, kw_4_173, by decide, by decide, by decide +kernel⟩
def f_X7_isTie_l1 (S : CS) (a1 : Int32) : Option (Bool) :=
  (if a1 ≤ 0 then
  some false
 else
  (if (S.1 21) ≤ a1 then
  some false
 else
  chk a1 60 (
  chk (S.2.1 37 a1.toNatClampNeg) 60 (
  chk (a1 - 1) 60 (
  chk (S.2.1 37 (a1 - 1).toNatClampNeg) 60 (
  (if (S.2.1 18 (S.2.1 37 a1.toNatClampNeg).toNatClampNeg) = (S.2.1 18 (S.2.1 37 (a1 - 1).toNatClampNeg).toNatClampNeg) then
  some true
 else
  some false)))))))
set_option maxRecDepth 100000 in
set_option maxHeartbeats 4000000 in
theorem c_X7_isTie_l1 {g : KG} {q : Nat → Nat} {E : va_W} {S : CS} {a1 : Int32} {r : Bool} (h : f_X7_isTie_l1 S a1 = some r) : ∀ l, kM l yX7_isTie cX7_isTie 2 (some .boolean) rm_X7_isTie_l1 g [.ref (q 36), .int a1] (cx g q E S) (cx g q E S) (some (.int (b2 r))) 0 0 := by
  refine k_open_z (own := "MarkChains$Line") (by decide) rfl (Nat.le_of_ble_eq_true rfl) (fun X C hR => ?_)
  refine (?_ : jJ X g (r : Bool) (cx g q E S) 0 0 0 [(0, .ref (q 36)), (1, .int a1)] [] (f_X7_isTie_l1 S a1)) h
  unfold f_X7_isTie_l1
  refine r_iload_n (pc := 0) C dX7_isTie_0 1 rfl ?_
  refine r_if_le 49 (pc := 1) C dX7_isTie_1 (by decide) ?_ ?_
  · refine r_iconst (pc := 49) C dX7_isTie_49 (v := 0) (by decide) ?_
    exact r_retPZ hR rfl (pc := 50) dX7_isTie_50
  · refine r_iload_n (pc := 4) C dX7_isTie_4 1 rfl ?_
    refine r_aload_n (pc := 5) C dX7_isTie_5 0 rfl ?_
    refine xg_l1_size (pc := 6) C kw_2_29 dX7_isTie_6 ?_
    refine r_icmp_ge 49 (pc := 9) C dX7_isTie_9 (by decide) ?_ ?_
    · refine r_iconst (pc := 49) C dX7_isTie_49 (v := 0) (by decide) ?_
      exact r_retPZ hR rfl (pc := 50) dX7_isTie_50
    · refine r_aload_n (pc := 12) C dX7_isTie_12 0 rfl ?_
      refine xg_l1_book (pc := 13) C kw_2_25 dX7_isTie_13 ?_
      refine xgN_bk_value (pc := 16) C knf_23 dX7_isTie_16 ?_
      refine r_aload_n (pc := 19) C dX7_isTie_19 0 rfl ?_
      refine xg_l1_numbers (pc := 20) C kw_2_26 dX7_isTie_20 ?_
      refine r_iload_n (pc := 23) C dX7_isTie_23 1 rfl ?_
      refine xl_l1_numbers (pc := 24) C dX7_isTie_24 ?_
      refine xl_bk_value (pc := 25) C dX7_isTie_25 ?_
      refine r_aload_n (pc := 26) C dX7_isTie_26 0 rfl ?_
      refine xg_l1_book (pc := 27) C kw_2_25 dX7_isTie_27 ?_
      refine xgN_bk_value (pc := 30) C knf_23 dX7_isTie_30 ?_
      refine r_aload_n (pc := 33) C dX7_isTie_33 0 rfl ?_
      refine xg_l1_numbers (pc := 34) C kw_2_26 dX7_isTie_34 ?_
      refine r_iload_n (pc := 37) C dX7_isTie_37 1 rfl ?_
      refine r_iconst (pc := 38) C dX7_isTie_38 (v := 1) (by decide) ?_
      refine r_isub (pc := 39) C dX7_isTie_39 ?_
      refine xl_l1_numbers (pc := 40) C dX7_isTie_40 ?_
      refine xl_bk_value (pc := 41) C dX7_isTie_41 ?_
      refine r_icmp_ne 49 (pc := 42) C dX7_isTie_42 (by decide) ?_ ?_
      · refine r_iconst (pc := 49) C dX7_isTie_49 (v := 0) (by decide) ?_
        exact r_retPZ hR rfl (pc := 50) dX7_isTie_50
      · refine r_iconst (pc := 45) C dX7_isTie_45 (v := 1) (by decide) ?_
        refine r_goto 50 (pc := 46) C dX7_isTie_46 (by decide) ?_
        exact r_retPZ hR rfl (pc := 50) dX7_isTie_50
abbrev rm_X7_countTies_l1 : Room := { frames := 1, cells := 0, slots := 0, locals := 21 }
theorem kY_X7_countTies : kY yX7_countTies cX7_countTies 3 (some .int) 0 := ⟨kw_1_10, kw_4_169, by decide, by decide, by decide +kernel⟩
def L_X7_countTies_l1_4 (S : CS) (k5 : Int32 → Option (Int32)) : Nat → Int32 → Int32 → Option (Int32) := lo2 fun rec3 x1 x2 =>
  (if (S.1 21) ≤ x2 then
  k5 x1
 else
  bp (f_X7_isTie_l1 S x2) (fun x7 =>
  jn1 (fun (x8 : Int32) =>
  lt (x1 + x8) fun x9 =>
  lt (x2 + 1) fun x10 =>
  rec3 x9 x10) (fun k11 =>
  (if x7 = true then
  k11 1
 else
  k11 0))))
set_option maxRecDepth 100000 in
set_option maxHeartbeats 4000000 in
theorem l_X7_countTies_l1_4 {X : KX} {g : KG} {q : Nat → Nat} {E : va_W} {res : Int32} {S : CS} (C : kC X g cX7_countTies "MarkChains$Line" rm_X7_countTies_l1 3) (hR : ∀ (pc : Nat) (lv : List (Nat × Value)), decode cX7_countTies pc = .ok (.ireturn, 1) → jW X g (cx g q E S) 0 0 pc lv [.int res]) (k5 : Int32 → Option (Int32)) (hk6 : ∀ (x13 : Int32), jJ X g res (cx g q E S) 0 0 34 [(1, .int x13)] [] (k5 x13)) : ∀ (n : Nat) (x1 : Int32) (x2 : Int32), jJ X g res (cx g q E S) 0 0 4 [(0, .ref (q 36)), (1, .int x1), (2, .int x2)] [] (L_X7_countTies_l1_4 S k5 n x1 x2) := by
  refine r_lo2 (fun x1 x2 => cx g q E S) (fun x1 x2 => [(0, .ref (q 36)), (1, .int x1), (2, .int x2)]) (fun rec3 ih4 x1 x2 => ?_)
  refine r_iload_n (pc := 4) C dX7_countTies_4 2 rfl ?_
  refine r_aload_n (pc := 5) C dX7_countTies_5 0 rfl ?_
  refine xg_l1_size (pc := 6) C kw_2_29 dX7_countTies_6 ?_
  refine r_icmp_ge 34 (pc := 9) C dX7_countTies_9 (by decide) ?_ ?_
  · refine r_sub (lv' := [(1, .int x1)]) [1] rfl ?_
    exact hk6 x1
  · refine r_iload_n (pc := 12) C dX7_countTies_12 1 rfl ?_
    refine r_aload_n (pc := 13) C dX7_countTies_13 0 rfl ?_
    refine r_iload_n (pc := 14) C dX7_countTies_14 2 rfl ?_
    refine r_cVpz (As := [.int x2]) (st := [.int x1]) (pc := 15) C (fun _ h => c_X7_isTie_l1 h) kY_X7_isTie kw_4_171 kw_4_172 kw_4_170 rfl ⟨Nat.le_of_ble_eq_true rfl, Nat.le_of_ble_eq_true rfl⟩ rfl rfl ⟨Nat.zero_le _, Nat.zero_le _⟩ 35 rfl rfl rfl (Nat.le_of_ble_eq_true rfl) dX7_countTies_15 (fun x7 => ?_)
    refine r_jn1 26 (fun (x8 : Int32) => cx g q E S) (fun (x8 : Int32) => [(0, .ref (q 36)), (2, .int x2)]) (fun (x8 : Int32) => [.int x8, .int x1]) (fun x8 => ?_) (fun k11 hk12 => ?_)
    · refine r_iadd (pc := 26) C dX7_countTies_26 ?_
      refine r_istoreV_n (pc := 27) C dX7_countTies_27 (lv' := fun x9 => [(0, .ref (q 36)), (1, .int x9), (2, .int x2)]) (by decide) [1, 0, 2] (fun _ => rfl) (fun x9 => ?_)
      refine r_iinc (pc := 28) C dX7_countTies_28 (v := 1) (lv' := fun x10 => [(0, .ref (q 36)), (1, .int x9), (2, .int x10)]) 2 rfl (by decide) (by decide) [1, 2, 0] (fun _ => rfl) (fun x10 => ?_)
      refine r_goto 4 (pc := 31) C dX7_countTies_31 (by decide) ?_
      exact ih4 x9 x10
    · refine r_ifb_eq 25 (pc := 18) C dX7_countTies_18 (by decide) ?_ ?_
      · refine r_iconst (pc := 25) C dX7_countTies_25 (v := 0) (by decide) ?_
        refine r_sub (lv' := [(0, .ref (q 36)), (2, .int x2)]) [0, 2] rfl ?_
        exact hk12 0
      · refine r_iconst (pc := 21) C dX7_countTies_21 (v := 1) (by decide) ?_
        refine r_goto 26 (pc := 22) C dX7_countTies_22 (by decide) ?_
        refine r_sub (lv' := [(0, .ref (q 36)), (2, .int x2)]) [0, 2] rfl ?_
        exact hk12 1
def f_X7_countTies_l1 (S : CS) : Option (Int32) :=
  L_X7_countTies_l1_4 S (fun x14 =>
  some x14) FU 0 1
set_option maxRecDepth 100000 in
set_option maxHeartbeats 4000000 in
theorem c_X7_countTies_l1 {g : KG} {q : Nat → Nat} {E : va_W} {S : CS}  {r : Int32} (h : f_X7_countTies_l1 S = some r) : ∀ l, kM l yX7_countTies cX7_countTies 3 (some .int) rm_X7_countTies_l1 g [.ref (q 36)] (cx g q E S) (cx g q E S) (some (.int r)) 0 0 := by
  refine k_open_i (own := "MarkChains$Line") (by decide) rfl (Nat.le_of_ble_eq_true rfl) (fun X C hR => ?_)
  refine (?_ : jJ X g (r : Int32) (cx g q E S) 0 0 0 [(0, .ref (q 36))] [] (f_X7_countTies_l1 S)) h
  unfold f_X7_countTies_l1
  refine r_iconst (pc := 0) C dX7_countTies_0 (v := 0) (by decide) ?_
  refine r_istore_n (pc := 1) C dX7_countTies_1 (lv' := [(0, .ref (q 36)), (1, .int 0)]) (by decide) [1, 0] rfl ?_
  refine r_iconst (pc := 2) C dX7_countTies_2 (v := 1) (by decide) ?_
  refine r_istore_n (pc := 3) C dX7_countTies_3 (lv' := [(0, .ref (q 36)), (1, .int 0), (2, .int 1)]) (by decide) [1, 2, 0] rfl ?_
  refine l_X7_countTies_l1_4 C hR _ (fun x14 => ?_) FU 0 1
  refine r_iload_n (pc := 34) C dX7_countTies_34 0 rfl ?_
  exact r_retPI hR (pc := 35) dX7_countTies_35
abbrev rm_X11_ties : Room := { frames := 5, cells := 0, slots := 0, locals := 117 }
theorem kY_X11_ties : kY yX11_ties cX11_ties 4 (some .int) 3 := ⟨kw_1_1, kw_4_165, by decide, by decide, by decide +kernel⟩
def f_X11_ties (S : CS) (a1 : Int32) (a2 : Int32) (a3 : Int32) : Option (Int32 × CS) :=
  bw (f_X11_fillChain S a1 a2 a3) (fun x1 S2 =>
  (if x1 = true then
  bp (f_X7_countTies_l1 S2) (fun x3 =>
  some (x3, S2))
 else
  some ((-2), S2)))
set_option maxRecDepth 100000 in
set_option maxHeartbeats 4000000 in
theorem c_X11_ties {g : KG} {q : Nat → Nat} {E : va_W} {S : CS} {a1 : Int32} {a2 : Int32} {a3 : Int32} {r : Int32} {S' : CS} (h : f_X11_ties S a1 a2 a3 = some (r, S')) : ∀ l, kM l yX11_ties cX11_ties 4 (some .int) rm_X11_ties g [.ref (q 0), .int a1, .int a2, .int a3] (cx g q E S) (cx g q E S') (some (.int r)) 0 0 := by
  refine k_open_i (own := "MarkChains") (by decide) rfl (Nat.le_of_ble_eq_true rfl) (fun X C hR => ?_)
  refine (?_ : jJ X g ((r, S') : Int32 × CS) (cx g q E S) 0 0 0 [(0, .ref (q 0)), (1, .int a1), (2, .int a2), (3, .int a3)] [] (f_X11_ties S a1 a2 a3)) h
  unfold f_X11_ties
  refine r_aload_n (pc := 0) C dX11_ties_0 0 rfl ?_
  refine r_iload_n (pc := 1) C dX11_ties_1 1 rfl ?_
  refine r_iload_n (pc := 2) C dX11_ties_2 2 rfl ?_
  refine r_iload_n (pc := 3) C dX11_ties_3 3 rfl ?_
  refine r_cVwz (As := [.int a1, .int a2, .int a3]) (st := []) (wf := cx g q E) (pc := 4) C (fun _ _ h => c_X11_fillChain h) kY_X11_fillChain kw_4_107 kw_0_24 kw_4_105 rfl ⟨Nat.le_of_ble_eq_true rfl, Nat.le_of_ble_eq_true rfl⟩ rfl rfl ⟨Nat.zero_le _, Nat.zero_le _⟩ 0 rfl rfl rfl (Nat.le_of_ble_eq_true rfl) dX11_ties_4 (fun x1 S2 => ?_)
  refine r_ifb_ne 13 (pc := 7) C dX11_ties_7 (by decide) ?_ ?_
  · refine r_aload_n (pc := 13) C dX11_ties_13 0 rfl ?_
    refine xg_x_line (pc := 14) C kw_2_80 dX11_ties_14 ?_
    refine r_cVpi (As := []) (st := []) (pc := 17) C (fun _ h => c_X7_countTies_l1 h) kY_X7_countTies kw_4_167 kw_4_168 kw_4_166 rfl ⟨Nat.le_of_ble_eq_true rfl, Nat.le_of_ble_eq_true rfl⟩ rfl rfl ⟨Nat.zero_le _, Nat.zero_le _⟩ 35 rfl rfl rfl (Nat.le_of_ble_eq_true rfl) dX11_ties_17 (fun x3 => ?_)
    exact r_retWI (wf := cx g q E) hR (pc := 20) dX11_ties_20
  · refine r_bipush (pc := 10) C dX11_ties_10 (v := (-2)) (by decide) ?_
    exact r_retWI (wf := cx g q E) hR (pc := 12) dX11_ties_12
set_option maxRecDepth 100000 in
theorem w_X11_ties {S : CS} {a1 : Int32} {a2 : Int32} {a3 : Int32} {r : Int32} {S' : CS} (h : f_X11_ties S a1 a2 a3 = some (r, S')) : gI [21] [37] S S' := by
  have hS : gI [21] [37] S S := gI_rf
  refine (?_ : jf (gI [21] [37] S) Prod.snd (f_X11_ties S a1 a2 a3)) _ h
  unfold f_X11_ties
  refine f_bwS (fun _ _ h => gI_tr hS (w_X11_fillChain h) (by decide) (by decide)) (fun x1 S2 hS2 => ?_)
  refine f_ite ?_ ?_
  · refine f_bp (fun x3 => ?_)
    exact f_some hS2
  · exact f_some hS2
abbrev rm_X7_levelEnd_l1 : Room := { frames := 1, cells := 0, slots := 0, locals := 21 }
theorem kY_X7_levelEnd : kY yX7_levelEnd cX7_levelEnd 3 (some .int) 1 := ⟨kw_1_10, kw_4_189, by decide, by decide, by decide +kernel⟩
def L_X7_levelEnd_l1_4 (S : CS) (k5 : Int32 → Option (Int32)) : Nat → Int32 → Option (Int32) := lo1 fun rec3 x2 =>
  (if (S.1 21) ≤ x2 then
  k5 x2
 else
  bp (f_X7_isTie_l1 S x2) (fun x7 =>
  (if x7 = true then
  lt (x2 + 1) fun x8 =>
  rec3 x8
 else
  k5 x2)))
set_option maxRecDepth 100000 in
set_option maxHeartbeats 4000000 in
theorem l_X7_levelEnd_l1_4 {X : KX} {g : KG} {q : Nat → Nat} {E : va_W} {res : Int32} {S : CS} (C : kC X g cX7_levelEnd "MarkChains$Line" rm_X7_levelEnd_l1 3) (hR : ∀ (pc : Nat) (lv : List (Nat × Value)), decode cX7_levelEnd pc = .ok (.ireturn, 1) → jW X g (cx g q E S) 0 0 pc lv [.int res]) (k5 : Int32 → Option (Int32)) (hk6 : ∀ (x9 : Int32), jJ X g res (cx g q E S) 0 0 26 [(2, .int x9)] [] (k5 x9)) : ∀ (n : Nat) (x2 : Int32), jJ X g res (cx g q E S) 0 0 4 [(0, .ref (q 36)), (2, .int x2)] [] (L_X7_levelEnd_l1_4 S k5 n x2) := by
  refine r_lo1 (fun x2 => cx g q E S) (fun x2 => [(0, .ref (q 36)), (2, .int x2)]) (fun rec3 ih4 x2 => ?_)
  refine r_iload_n (pc := 4) C dX7_levelEnd_4 1 rfl ?_
  refine r_aload_n (pc := 5) C dX7_levelEnd_5 0 rfl ?_
  refine xg_l1_size (pc := 6) C kw_2_29 dX7_levelEnd_6 ?_
  refine r_icmp_ge 26 (pc := 9) C dX7_levelEnd_9 (by decide) ?_ ?_
  · refine r_sub (lv' := [(2, .int x2)]) [1] rfl ?_
    exact hk6 x2
  · refine r_aload_n (pc := 12) C dX7_levelEnd_12 0 rfl ?_
    refine r_iload_n (pc := 13) C dX7_levelEnd_13 1 rfl ?_
    refine r_cVpz (As := [.int x2]) (st := []) (pc := 14) C (fun _ h => c_X7_isTie_l1 h) kY_X7_isTie kw_4_171 kw_4_172 kw_4_170 rfl ⟨Nat.le_of_ble_eq_true rfl, Nat.le_of_ble_eq_true rfl⟩ rfl rfl ⟨Nat.zero_le _, Nat.zero_le _⟩ 35 rfl rfl rfl (Nat.le_of_ble_eq_true rfl) dX7_levelEnd_14 (fun x7 => ?_)
    refine r_ifb_eq 26 (pc := 17) C dX7_levelEnd_17 (by decide) ?_ ?_
    · refine r_sub (lv' := [(2, .int x2)]) [1] rfl ?_
      exact hk6 x2
    · refine r_iinc (pc := 20) C dX7_levelEnd_20 (v := 1) (lv' := fun x8 => [(0, .ref (q 36)), (2, .int x8)]) 1 rfl (by decide) (by decide) [1, 0] (fun _ => rfl) (fun x8 => ?_)
      refine r_goto 4 (pc := 23) C dX7_levelEnd_23 (by decide) ?_
      exact ih4 x8
def f_X7_levelEnd_l1 (S : CS) (a1 : Int32) : Option (Int32) :=
  lt (a1 + 1) fun x1 =>
  L_X7_levelEnd_l1_4 S (fun x10 =>
  some x10) FU x1
set_option maxRecDepth 100000 in
set_option maxHeartbeats 4000000 in
theorem c_X7_levelEnd_l1 {g : KG} {q : Nat → Nat} {E : va_W} {S : CS} {a1 : Int32} {r : Int32} (h : f_X7_levelEnd_l1 S a1 = some r) : ∀ l, kM l yX7_levelEnd cX7_levelEnd 3 (some .int) rm_X7_levelEnd_l1 g [.ref (q 36), .int a1] (cx g q E S) (cx g q E S) (some (.int r)) 0 0 := by
  refine k_open_i (own := "MarkChains$Line") (by decide) rfl (Nat.le_of_ble_eq_true rfl) (fun X C hR => ?_)
  refine (?_ : jJ X g (r : Int32) (cx g q E S) 0 0 0 [(0, .ref (q 36)), (1, .int a1)] [] (f_X7_levelEnd_l1 S a1)) h
  unfold f_X7_levelEnd_l1
  refine r_iload_n (pc := 0) C dX7_levelEnd_0 1 rfl ?_
  refine r_iconst (pc := 1) C dX7_levelEnd_1 (v := 1) (by decide) ?_
  refine r_iadd (pc := 2) C dX7_levelEnd_2 ?_
  refine r_istoreV_n (pc := 3) C dX7_levelEnd_3 (lv' := fun x1 => [(0, .ref (q 36)), (1, .int a1), (2, .int x1)]) (by decide) [1, 2, 0] (fun _ => rfl) (fun x1 => ?_)
  refine r_sub (lv' := [(0, .ref (q 36)), (2, .int x1)]) [0, 2] rfl ?_
  refine l_X7_levelEnd_l1_4 C hR _ (fun x10 => ?_) FU x1
  refine r_iload_n (pc := 26) C dX7_levelEnd_26 0 rfl ?_
  exact r_retPI hR (pc := 27) dX7_levelEnd_27
abbrev rm_X7_dayAt_l1 : Room := { frames := 0, cells := 0, slots := 0, locals := 0 }
theorem kY_X7_dayAt : kY yX7_dayAt cX7_dayAt 3 (some .int) 2 := ⟨kw_1_10, kw_4_193, by decide, by decide, by decide +kernel⟩
def f_X7_dayAt_l1 (S : CS) (a1 : Int32) (a2 : Int32) : Option (Int32) :=
  (if (S.1 21) ≤ a1 then
  some a2
 else
  chk a1 60 (
  chk (S.2.1 37 a1.toNatClampNeg) 60 (
  some (S.2.1 16 (S.2.1 37 a1.toNatClampNeg).toNatClampNeg))))
set_option maxRecDepth 100000 in
set_option maxHeartbeats 4000000 in
theorem c_X7_dayAt_l1 {g : KG} {q : Nat → Nat} {E : va_W} {S : CS} {a1 : Int32} {a2 : Int32} {r : Int32} (h : f_X7_dayAt_l1 S a1 a2 = some r) : ∀ l, kM l yX7_dayAt cX7_dayAt 3 (some .int) rm_X7_dayAt_l1 g [.ref (q 36), .int a1, .int a2] (cx g q E S) (cx g q E S) (some (.int r)) 0 0 := by
  refine k_open_i (own := "MarkChains$Line") (by decide) rfl (Nat.le_of_ble_eq_true rfl) (fun X C hR => ?_)
  refine (?_ : jJ X g (r : Int32) (cx g q E S) 0 0 0 [(0, .ref (q 36)), (1, .int a1), (2, .int a2)] [] (f_X7_dayAt_l1 S a1 a2)) h
  unfold f_X7_dayAt_l1
  refine r_iload_n (pc := 0) C dX7_dayAt_0 1 rfl ?_
  refine r_aload_n (pc := 1) C dX7_dayAt_1 0 rfl ?_
  refine xg_l1_size (pc := 2) C kw_2_29 dX7_dayAt_2 ?_
  refine r_icmp_ge 25 (pc := 5) C dX7_dayAt_5 (by decide) ?_ ?_
  · refine r_iload_n (pc := 25) C dX7_dayAt_25 2 rfl ?_
    exact r_retPI hR (pc := 26) dX7_dayAt_26
  · refine r_aload_n (pc := 8) C dX7_dayAt_8 0 rfl ?_
    refine xg_l1_book (pc := 9) C kw_2_25 dX7_dayAt_9 ?_
    refine xgN_bk_day (pc := 12) C knf_20 dX7_dayAt_12 ?_
    refine r_aload_n (pc := 15) C dX7_dayAt_15 0 rfl ?_
    refine xg_l1_numbers (pc := 16) C kw_2_26 dX7_dayAt_16 ?_
    refine r_iload_n (pc := 19) C dX7_dayAt_19 1 rfl ?_
    refine xl_l1_numbers (pc := 20) C dX7_dayAt_20 ?_
    refine xl_bk_day (pc := 21) C dX7_dayAt_21 ?_
    refine r_goto 26 (pc := 22) C dX7_dayAt_22 (by decide) ?_
    exact r_retPI hR (pc := 26) dX7_dayAt_26
abbrev rm_X7_daysOfLevel_l1 : Room := { frames := 2, cells := 0, slots := 0, locals := 43 }
theorem kY_X7_daysOfLevel : kY yX7_daysOfLevel cX7_daysOfLevel 3 (some .int) 2 := ⟨kw_1_10, kw_4_185, by decide, by decide, by decide +kernel⟩
def f_X7_daysOfLevel_l1 (S : CS) (a1 : Int32) (a2 : Int32) : Option (Int32) :=
  bp (f_X7_levelEnd_l1 S a1) (fun x1 =>
  bp (f_X7_dayAt_l1 S x1 a2) (fun x2 =>
  bp (f_X7_dayAt_l1 S a1 a2) (fun x3 =>
  some (x2 - x3))))
set_option maxRecDepth 100000 in
set_option maxHeartbeats 4000000 in
theorem c_X7_daysOfLevel_l1 {g : KG} {q : Nat → Nat} {E : va_W} {S : CS} {a1 : Int32} {a2 : Int32} {r : Int32} (h : f_X7_daysOfLevel_l1 S a1 a2 = some r) : ∀ l, kM l yX7_daysOfLevel cX7_daysOfLevel 3 (some .int) rm_X7_daysOfLevel_l1 g [.ref (q 36), .int a1, .int a2] (cx g q E S) (cx g q E S) (some (.int r)) 0 0 := by
  refine k_open_i (own := "MarkChains$Line") (by decide) rfl (Nat.le_of_ble_eq_true rfl) (fun X C hR => ?_)
  refine (?_ : jJ X g (r : Int32) (cx g q E S) 0 0 0 [(0, .ref (q 36)), (1, .int a1), (2, .int a2)] [] (f_X7_daysOfLevel_l1 S a1 a2)) h
  unfold f_X7_daysOfLevel_l1
  refine r_aload_n (pc := 0) C dX7_daysOfLevel_0 0 rfl ?_
  refine r_aload_n (pc := 1) C dX7_daysOfLevel_1 0 rfl ?_
  refine r_iload_n (pc := 2) C dX7_daysOfLevel_2 1 rfl ?_
  refine r_cVpi (As := [.int a1]) (st := [.ref (q 36)]) (pc := 3) C (fun _ h => c_X7_levelEnd_l1 h) kY_X7_levelEnd kw_4_188 kw_0_27 kw_4_186 rfl ⟨Nat.le_of_ble_eq_true rfl, Nat.le_of_ble_eq_true rfl⟩ rfl rfl ⟨Nat.zero_le _, Nat.zero_le _⟩ 35 rfl rfl rfl (Nat.le_of_ble_eq_true rfl) dX7_daysOfLevel_3 (fun x1 => ?_)
  refine r_iload_n (pc := 6) C dX7_daysOfLevel_6 2 rfl ?_
  refine r_cVpi (As := [.int x1, .int a2]) (st := []) (pc := 7) C (fun _ h => c_X7_dayAt_l1 h) kY_X7_dayAt kw_4_192 kw_0_28 kw_4_190 rfl ⟨Nat.le_of_ble_eq_true rfl, Nat.le_of_ble_eq_true rfl⟩ rfl rfl ⟨Nat.zero_le _, Nat.zero_le _⟩ 35 rfl rfl rfl (Nat.le_of_ble_eq_true rfl) dX7_daysOfLevel_7 (fun x2 => ?_)
  refine r_aload_n (pc := 10) C dX7_daysOfLevel_10 0 rfl ?_
  refine r_iload_n (pc := 11) C dX7_daysOfLevel_11 1 rfl ?_
  refine r_iload_n (pc := 12) C dX7_daysOfLevel_12 2 rfl ?_
  refine r_cVpi (As := [.int a1, .int a2]) (st := [.int x2]) (pc := 13) C (fun _ h => c_X7_dayAt_l1 h) kY_X7_dayAt kw_4_192 kw_0_28 kw_4_190 rfl ⟨Nat.le_of_ble_eq_true rfl, Nat.le_of_ble_eq_true rfl⟩ rfl rfl ⟨Nat.zero_le _, Nat.zero_le _⟩ 35 rfl rfl rfl (Nat.le_of_ble_eq_true rfl) dX7_daysOfLevel_13 (fun x3 => ?_)
  refine r_isub (pc := 16) C dX7_daysOfLevel_16 ?_
  exact r_retPI hR (pc := 17) dX7_daysOfLevel_17
abbrev rm_X7_daysHeldBy_l1 : Room := { frames := 3, cells := 0, slots := 0, locals := 65 }
theorem kY_X7_daysHeldBy : kY yX7_daysHeldBy cX7_daysHeldBy 6 (some .int) 2 := ⟨kw_1_10, kw_4_181, by decide, by decide, by decide +kernel⟩
def L_X7_daysHeldBy_l1_8 (S : CS) (c1 : Int32) (c2 : Int32) (k6 : Int32 → Option (Int32)) : Nat → Int32 → Int32 → Int32 → Option (Int32) := lo3 fun rec4 x1 x2 x3 =>
  (if (S.1 21) ≤ x3 then
  k6 x1
 else
  bp (f_X7_isTie_l1 S x3) (fun x8 =>
  jn1 (fun (x9 : Int32) =>
  (if x9 = 0 then
  chk x3 60 (
  chk (S.2.1 37 x3.toNatClampNeg) 60 (
  (if (S.2.1 14 (S.2.1 37 x3.toNatClampNeg).toNatClampNeg) = c1 then
  bp (f_X7_daysOfLevel_l1 S x3 c2) (fun x12 =>
  lt (x1 + x12) fun x13 =>
  lt (x3 + 1) fun x14 =>
  rec4 x13 1 x14)
 else
  lt (x3 + 1) fun x11 =>
  rec4 x1 x9 x11)))
 else
  lt (x3 + 1) fun x10 =>
  rec4 x1 x9 x10)) (fun k15 =>
  (if x8 = true then
  k15 x2
 else
  k15 0))))
set_option maxRecDepth 100000 in
set_option maxHeartbeats 4000000 in
theorem l_X7_daysHeldBy_l1_8 {X : KX} {g : KG} {q : Nat → Nat} {E : va_W} {res : Int32} {S : CS} (C : kC X g cX7_daysHeldBy "MarkChains$Line" rm_X7_daysHeldBy_l1 6) (hR : ∀ (pc : Nat) (lv : List (Nat × Value)), decode cX7_daysHeldBy pc = .ok (.ireturn, 1) → jW X g (cx g q E S) 0 0 pc lv [.int res]) (c1 : Int32) (c2 : Int32) (k6 : Int32 → Option (Int32)) (hk7 : ∀ (x17 : Int32), jJ X g res (cx g q E S) 0 0 72 [(3, .int x17)] [] (k6 x17)) : ∀ (n : Nat) (x1 : Int32) (x2 : Int32) (x3 : Int32), jJ X g res (cx g q E S) 0 0 8 [(0, .ref (q 36)), (1, .int c1), (2, .int c2), (3, .int x1), (4, .int x2), (5, .int x3)] [] (L_X7_daysHeldBy_l1_8 S c1 c2 k6 n x1 x2 x3) := by
  refine r_lo3 (fun x1 x2 x3 => cx g q E S) (fun x1 x2 x3 => [(0, .ref (q 36)), (1, .int c1), (2, .int c2), (3, .int x1), (4, .int x2), (5, .int x3)]) (fun rec4 ih5 x1 x2 x3 => ?_)
  refine r_iload (pc := 8) C dX7_daysHeldBy_8 5 rfl ?_
  refine r_aload_n (pc := 10) C dX7_daysHeldBy_10 0 rfl ?_
  refine xg_l1_size (pc := 11) C kw_2_29 dX7_daysHeldBy_11 ?_
  refine r_icmp_ge 72 (pc := 14) C dX7_daysHeldBy_14 (by decide) ?_ ?_
  · refine r_sub (lv' := [(3, .int x1)]) [3] rfl ?_
    exact hk7 x1
  · refine r_aload_n (pc := 17) C dX7_daysHeldBy_17 0 rfl ?_
    refine r_iload (pc := 18) C dX7_daysHeldBy_18 5 rfl ?_
    refine r_cVpz (As := [.int x3]) (st := []) (pc := 20) C (fun _ h => c_X7_isTie_l1 h) kY_X7_isTie kw_4_171 kw_4_172 kw_4_170 rfl ⟨Nat.le_of_ble_eq_true rfl, Nat.le_of_ble_eq_true rfl⟩ rfl rfl ⟨Nat.zero_le _, Nat.zero_le _⟩ 35 rfl rfl rfl (Nat.le_of_ble_eq_true rfl) dX7_daysHeldBy_20 (fun x8 => ?_)
    refine r_jn1 29 (fun (x9 : Int32) => cx g q E S) (fun (x9 : Int32) => [(0, .ref (q 36)), (1, .int c1), (2, .int c2), (3, .int x1), (4, .int x9), (5, .int x3)]) (fun (x9 : Int32) => []) (fun x9 => ?_) (fun k15 hk16 => ?_)
    · refine r_iload (pc := 29) C dX7_daysHeldBy_29 4 rfl ?_
      refine r_if_ne 66 (pc := 31) C dX7_daysHeldBy_31 (by decide) ?_ ?_
      · refine r_iinc (pc := 66) C dX7_daysHeldBy_66 (v := 1) (lv' := fun x10 => [(0, .ref (q 36)), (1, .int c1), (2, .int c2), (3, .int x1), (4, .int x9), (5, .int x10)]) 5 rfl (by decide) (by decide) [1, 2, 3, 4, 5, 0] (fun _ => rfl) (fun x10 => ?_)
        refine r_goto 8 (pc := 69) C dX7_daysHeldBy_69 (by decide) ?_
        exact ih5 x1 x9 x10
      · refine r_aload_n (pc := 34) C dX7_daysHeldBy_34 0 rfl ?_
        refine xg_l1_book (pc := 35) C kw_2_25 dX7_daysHeldBy_35 ?_
        refine xgN_bk_athlete (pc := 38) C knf_18 dX7_daysHeldBy_38 ?_
        refine r_aload_n (pc := 41) C dX7_daysHeldBy_41 0 rfl ?_
        refine xg_l1_numbers (pc := 42) C kw_2_26 dX7_daysHeldBy_42 ?_
        refine r_iload (pc := 45) C dX7_daysHeldBy_45 5 rfl ?_
        refine xl_l1_numbers (pc := 47) C dX7_daysHeldBy_47 ?_
        refine xl_bk_athlete (pc := 48) C dX7_daysHeldBy_48 ?_
        refine r_iload_n (pc := 49) C dX7_daysHeldBy_49 1 rfl ?_
        refine r_icmp_ne 66 (pc := 50) C dX7_daysHeldBy_50 (by decide) ?_ ?_
        · refine r_iinc (pc := 66) C dX7_daysHeldBy_66 (v := 1) (lv' := fun x11 => [(0, .ref (q 36)), (1, .int c1), (2, .int c2), (3, .int x1), (4, .int x9), (5, .int x11)]) 5 rfl (by decide) (by decide) [1, 2, 3, 4, 5, 0] (fun _ => rfl) (fun x11 => ?_)
          refine r_goto 8 (pc := 69) C dX7_daysHeldBy_69 (by decide) ?_
          exact ih5 x1 x9 x11
        · refine r_iload_n (pc := 53) C dX7_daysHeldBy_53 3 rfl ?_
          refine r_aload_n (pc := 54) C dX7_daysHeldBy_54 0 rfl ?_
          refine r_iload (pc := 55) C dX7_daysHeldBy_55 5 rfl ?_
          refine r_iload_n (pc := 57) C dX7_daysHeldBy_57 2 rfl ?_
          refine r_cVpi (As := [.int x3, .int c2]) (st := [.int x1]) (pc := 58) C (fun _ h => c_X7_daysOfLevel_l1 h) kY_X7_daysOfLevel kw_4_183 kw_4_184 kw_4_182 rfl ⟨Nat.le_of_ble_eq_true rfl, Nat.le_of_ble_eq_true rfl⟩ rfl rfl ⟨Nat.zero_le _, Nat.zero_le _⟩ 35 rfl rfl rfl (Nat.le_of_ble_eq_true rfl) dX7_daysHeldBy_58 (fun x12 => ?_)
          refine r_iadd (pc := 61) C dX7_daysHeldBy_61 ?_
          refine r_istoreV_n (pc := 62) C dX7_daysHeldBy_62 (lv' := fun x13 => [(0, .ref (q 36)), (1, .int c1), (2, .int c2), (3, .int x13), (4, .int x9), (5, .int x3)]) (by decide) [1, 2, 3, 0, 4, 5] (fun _ => rfl) (fun x13 => ?_)
          refine r_iconst (pc := 63) C dX7_daysHeldBy_63 (v := 1) (by decide) ?_
          refine r_istore (pc := 64) C dX7_daysHeldBy_64 (lv' := [(0, .ref (q 36)), (1, .int c1), (2, .int c2), (3, .int x13), (4, .int 1), (5, .int x3)]) (by decide) [1, 2, 3, 4, 0, 5] rfl ?_
          refine r_iinc (pc := 66) C dX7_daysHeldBy_66 (v := 1) (lv' := fun x14 => [(0, .ref (q 36)), (1, .int c1), (2, .int c2), (3, .int x13), (4, .int 1), (5, .int x14)]) 5 rfl (by decide) (by decide) [1, 2, 3, 4, 5, 0] (fun _ => rfl) (fun x14 => ?_)
          refine r_goto 8 (pc := 69) C dX7_daysHeldBy_69 (by decide) ?_
          exact ih5 x13 1 x14
    · refine r_ifb_ne 29 (pc := 23) C dX7_daysHeldBy_23 (by decide) ?_ ?_
      · exact hk16 x2
      · refine r_iconst (pc := 26) C dX7_daysHeldBy_26 (v := 0) (by decide) ?_
        refine r_istore (pc := 27) C dX7_daysHeldBy_27 (lv' := [(0, .ref (q 36)), (1, .int c1), (2, .int c2), (3, .int x1), (4, .int 0), (5, .int x3)]) (by decide) [1, 2, 3, 4, 0, 5] rfl ?_
        exact hk16 0
def f_X7_daysHeldBy_l1 (S : CS) (a1 : Int32) (a2 : Int32) : Option (Int32) :=
  L_X7_daysHeldBy_l1_8 S a1 a2 (fun x18 =>
  some x18) FU 0 0 0
set_option maxRecDepth 100000 in
set_option maxHeartbeats 4000000 in
theorem c_X7_daysHeldBy_l1 {g : KG} {q : Nat → Nat} {E : va_W} {S : CS} {a1 : Int32} {a2 : Int32} {r : Int32} (h : f_X7_daysHeldBy_l1 S a1 a2 = some r) : ∀ l, kM l yX7_daysHeldBy cX7_daysHeldBy 6 (some .int) rm_X7_daysHeldBy_l1 g [.ref (q 36), .int a1, .int a2] (cx g q E S) (cx g q E S) (some (.int r)) 0 0 := by
  refine k_open_i (own := "MarkChains$Line") (by decide) rfl (Nat.le_of_ble_eq_true rfl) (fun X C hR => ?_)
  refine (?_ : jJ X g (r : Int32) (cx g q E S) 0 0 0 [(0, .ref (q 36)), (1, .int a1), (2, .int a2)] [] (f_X7_daysHeldBy_l1 S a1 a2)) h
  unfold f_X7_daysHeldBy_l1
  refine r_iconst (pc := 0) C dX7_daysHeldBy_0 (v := 0) (by decide) ?_
  refine r_istore_n (pc := 1) C dX7_daysHeldBy_1 (lv' := [(0, .ref (q 36)), (1, .int a1), (2, .int a2), (3, .int 0)]) (by decide) [1, 2, 3, 0] rfl ?_
  refine r_iconst (pc := 2) C dX7_daysHeldBy_2 (v := 0) (by decide) ?_
  refine r_istore (pc := 3) C dX7_daysHeldBy_3 (lv' := [(0, .ref (q 36)), (1, .int a1), (2, .int a2), (3, .int 0), (4, .int 0)]) (by decide) [1, 2, 3, 4, 0] rfl ?_
  refine r_iconst (pc := 5) C dX7_daysHeldBy_5 (v := 0) (by decide) ?_
  refine r_istore (pc := 6) C dX7_daysHeldBy_6 (lv' := [(0, .ref (q 36)), (1, .int a1), (2, .int a2), (3, .int 0), (4, .int 0), (5, .int 0)]) (by decide) [1, 2, 3, 4, 5, 0] rfl ?_
  refine l_X7_daysHeldBy_l1_8 C hR a1 a2 _ (fun x18 => ?_) FU 0 0 0
  refine r_iload_n (pc := 72) C dX7_daysHeldBy_72 0 rfl ?_
  exact r_retPI hR (pc := 73) dX7_daysHeldBy_73
abbrev rm_X11_held : Room := { frames := 5, cells := 0, slots := 0, locals := 117 }
theorem kY_X11_held : kY yX11_held cX11_held 5 (some .int) 4 := ⟨kw_1_1, kw_4_177, by decide, by decide, by decide +kernel⟩
def f_X11_held (S : CS) (a1 : Int32) (a2 : Int32) (a3 : Int32) (a4 : Int32) : Option (Int32 × CS) :=
  bp (f_X8_has_pa S a3) (fun x1 =>
  (if x1 = true then
  bw (f_X11_fillChain S a1 a2 a4) (fun x2 S3 =>
  (if x2 = true then
  bp (f_X7_daysHeldBy_l1 S3 a3 a4) (fun x4 =>
  some (x4, S3))
 else
  some ((-2), S3)))
 else
  some ((-2), S)))
set_option maxRecDepth 100000 in
set_option maxHeartbeats 4000000 in
theorem c_X11_held {g : KG} {q : Nat → Nat} {E : va_W} {S : CS} {a1 : Int32} {a2 : Int32} {a3 : Int32} {a4 : Int32} {r : Int32} {S' : CS} (h : f_X11_held S a1 a2 a3 a4 = some (r, S')) : ∀ l, kM l yX11_held cX11_held 5 (some .int) rm_X11_held g [.ref (q 0), .int a1, .int a2, .int a3, .int a4] (cx g q E S) (cx g q E S') (some (.int r)) 0 0 := by
  refine k_open_i (own := "MarkChains") (by decide) rfl (Nat.le_of_ble_eq_true rfl) (fun X C hR => ?_)
  refine (?_ : jJ X g ((r, S') : Int32 × CS) (cx g q E S) 0 0 0 [(0, .ref (q 0)), (1, .int a1), (2, .int a2), (3, .int a3), (4, .int a4)] [] (f_X11_held S a1 a2 a3 a4)) h
  unfold f_X11_held
  refine r_aload_n (pc := 0) C dX11_held_0 0 rfl ?_
  refine xg_x_book (pc := 1) C kw_2_75 dX11_held_1 ?_
  refine xgN_bk_athletes (pc := 4) C knf_16 dX11_held_4 ?_
  refine r_iload_n (pc := 7) C dX11_held_7 3 rfl ?_
  refine r_cVpz (As := [.int a3]) (st := []) (pc := 8) C (fun _ h => c_X8_has_pa h) kY_X8_has kw_3_46 kw_3_47 kw_4_58 rfl ⟨Nat.le_of_ble_eq_true rfl, Nat.le_of_ble_eq_true rfl⟩ rfl rfl ⟨Nat.zero_le _, Nat.zero_le _⟩ 10 rfl rfl rfl (Nat.le_of_ble_eq_true rfl) dX11_held_8 (fun x1 => ?_)
  refine r_ifb_eq 25 (pc := 11) C dX11_held_11 (by decide) ?_ ?_
  · refine r_bipush (pc := 25) C dX11_held_25 (v := (-2)) (by decide) ?_
    exact r_retWI (wf := cx g q E) hR (pc := 27) dX11_held_27
  · refine r_aload_n (pc := 14) C dX11_held_14 0 rfl ?_
    refine r_iload_n (pc := 15) C dX11_held_15 1 rfl ?_
    refine r_iload_n (pc := 16) C dX11_held_16 2 rfl ?_
    refine r_iload (pc := 17) C dX11_held_17 4 rfl ?_
    refine r_cVwz (As := [.int a1, .int a2, .int a4]) (st := []) (wf := cx g q E) (pc := 19) C (fun _ _ h => c_X11_fillChain h) kY_X11_fillChain kw_4_107 kw_0_24 kw_4_105 rfl ⟨Nat.le_of_ble_eq_true rfl, Nat.le_of_ble_eq_true rfl⟩ rfl rfl ⟨Nat.zero_le _, Nat.zero_le _⟩ 0 rfl rfl rfl (Nat.le_of_ble_eq_true rfl) dX11_held_19 (fun x2 S3 => ?_)
    refine r_ifb_ne 28 (pc := 22) C dX11_held_22 (by decide) ?_ ?_
    · refine r_aload_n (pc := 28) C dX11_held_28 0 rfl ?_
      refine xg_x_line (pc := 29) C kw_2_80 dX11_held_29 ?_
      refine r_iload_n (pc := 32) C dX11_held_32 3 rfl ?_
      refine r_iload (pc := 33) C dX11_held_33 4 rfl ?_
      refine r_cVpi (As := [.int a3, .int a4]) (st := []) (pc := 35) C (fun _ h => c_X7_daysHeldBy_l1 h) kY_X7_daysHeldBy kw_4_179 kw_4_180 kw_4_178 rfl ⟨Nat.le_of_ble_eq_true rfl, Nat.le_of_ble_eq_true rfl⟩ rfl rfl ⟨Nat.zero_le _, Nat.zero_le _⟩ 35 rfl rfl rfl (Nat.le_of_ble_eq_true rfl) dX11_held_35 (fun x4 => ?_)
      exact r_retWI (wf := cx g q E) hR (pc := 38) dX11_held_38
    · refine r_bipush (pc := 25) C dX11_held_25 (v := (-2)) (by decide) ?_
      exact r_retWI (wf := cx g q E) hR (pc := 27) dX11_held_27
set_option maxRecDepth 100000 in
theorem w_X11_held {S : CS} {a1 : Int32} {a2 : Int32} {a3 : Int32} {a4 : Int32} {r : Int32} {S' : CS} (h : f_X11_held S a1 a2 a3 a4 = some (r, S')) : gI [21] [37] S S' := by
  have hS : gI [21] [37] S S := gI_rf
  refine (?_ : jf (gI [21] [37] S) Prod.snd (f_X11_held S a1 a2 a3 a4)) _ h
  unfold f_X11_held
  refine f_bp (fun x1 => ?_)
  refine f_ite ?_ ?_
  · refine f_bwS (fun _ _ h => gI_tr hS (w_X11_fillChain h) (by decide) (by decide)) (fun x2 S3 hS3 => ?_)
    refine f_ite ?_ ?_
    · refine f_bp (fun x4 => ?_)
      exact f_some hS3
    · exact f_some hS3
  · exact f_some hS
abbrev rm_X7_longestLevel_l1 : Room := { frames := 3, cells := 0, slots := 0, locals := 65 }
theorem kY_X7_longestLevel : kY yX7_longestLevel cX7_longestLevel 4 (some .int) 1 := ⟨kw_1_10, kw_4_201, by decide, by decide, by decide +kernel⟩
def L_X7_longestLevel_l1_4 (S : CS) (c1 : Int32) (k5 : Int32 → Option (Int32)) : Nat → Int32 → Int32 → Option (Int32) := lo2 fun rec3 x1 x2 =>
  (if (S.1 21) ≤ x2 then
  k5 x1
 else
  bp (f_X7_isTie_l1 S x2) (fun x7 =>
  (if x7 = true then
  lt (x2 + 1) fun x8 =>
  rec3 x1 x8
 else
  jn0 (lt (x2 + 1) fun x9 =>
  rec3 x2 x9) (fun k10 =>
  (if x1 = (-1) then
  k10
 else
  bp (f_X7_daysOfLevel_l1 S x2 c1) (fun x12 =>
  bp (f_X7_daysOfLevel_l1 S x1 c1) (fun x13 =>
  (if x12 ≤ x13 then
  lt (x2 + 1) fun x14 =>
  rec3 x1 x14
 else
  k10))))))))
set_option maxRecDepth 100000 in
set_option maxHeartbeats 4000000 in
theorem l_X7_longestLevel_l1_4 {X : KX} {g : KG} {q : Nat → Nat} {E : va_W} {res : Int32} {S : CS} (C : kC X g cX7_longestLevel "MarkChains$Line" rm_X7_longestLevel_l1 4) (hR : ∀ (pc : Nat) (lv : List (Nat × Value)), decode cX7_longestLevel pc = .ok (.ireturn, 1) → jW X g (cx g q E S) 0 0 pc lv [.int res]) (c1 : Int32) (k5 : Int32 → Option (Int32)) (hk6 : ∀ (x15 : Int32), jJ X g res (cx g q E S) 0 0 48 [(2, .int x15)] [] (k5 x15)) : ∀ (n : Nat) (x1 : Int32) (x2 : Int32), jJ X g res (cx g q E S) 0 0 4 [(0, .ref (q 36)), (1, .int c1), (2, .int x1), (3, .int x2)] [] (L_X7_longestLevel_l1_4 S c1 k5 n x1 x2) := by
  refine r_lo2 (fun x1 x2 => cx g q E S) (fun x1 x2 => [(0, .ref (q 36)), (1, .int c1), (2, .int x1), (3, .int x2)]) (fun rec3 ih4 x1 x2 => ?_)
  refine r_iload_n (pc := 4) C dX7_longestLevel_4 3 rfl ?_
  refine r_aload_n (pc := 5) C dX7_longestLevel_5 0 rfl ?_
  refine xg_l1_size (pc := 6) C kw_2_29 dX7_longestLevel_6 ?_
  refine r_icmp_ge 48 (pc := 9) C dX7_longestLevel_9 (by decide) ?_ ?_
  · refine r_sub (lv' := [(2, .int x1)]) [2] rfl ?_
    exact hk6 x1
  · refine r_aload_n (pc := 12) C dX7_longestLevel_12 0 rfl ?_
    refine r_iload_n (pc := 13) C dX7_longestLevel_13 3 rfl ?_
    refine r_cVpz (As := [.int x2]) (st := []) (pc := 14) C (fun _ h => c_X7_isTie_l1 h) kY_X7_isTie kw_4_171 kw_4_172 kw_4_170 rfl ⟨Nat.le_of_ble_eq_true rfl, Nat.le_of_ble_eq_true rfl⟩ rfl rfl ⟨Nat.zero_le _, Nat.zero_le _⟩ 35 rfl rfl rfl (Nat.le_of_ble_eq_true rfl) dX7_longestLevel_14 (fun x7 => ?_)
    refine r_ifb_ne 42 (pc := 17) C dX7_longestLevel_17 (by decide) ?_ ?_
    · refine r_iinc (pc := 42) C dX7_longestLevel_42 (v := 1) (lv' := fun x8 => [(0, .ref (q 36)), (1, .int c1), (2, .int x1), (3, .int x8)]) 3 rfl (by decide) (by decide) [1, 2, 3, 0] (fun _ => rfl) (fun x8 => ?_)
      refine r_goto 4 (pc := 45) C dX7_longestLevel_45 (by decide) ?_
      exact ih4 x1 x8
    · refine r_iload_n (pc := 20) C dX7_longestLevel_20 2 rfl ?_
      refine r_iconst (pc := 21) C dX7_longestLevel_21 (v := (-1)) (by decide) ?_
      refine r_jn0 40 (cx g q E S) ([(0, .ref (q 36)), (1, .int c1), (3, .int x2)]) ([]) ?_ (fun k10 hk11 => ?_)
      · refine r_iload_n (pc := 40) C dX7_longestLevel_40 2 rfl ?_
        refine r_istore_n (pc := 41) C dX7_longestLevel_41 (lv' := [(0, .ref (q 36)), (1, .int c1), (2, .int x2), (3, .int x2)]) (by decide) [1, 2, 0, 3] rfl ?_
        refine r_iinc (pc := 42) C dX7_longestLevel_42 (v := 1) (lv' := fun x9 => [(0, .ref (q 36)), (1, .int c1), (2, .int x2), (3, .int x9)]) 3 rfl (by decide) (by decide) [1, 2, 3, 0] (fun _ => rfl) (fun x9 => ?_)
        refine r_goto 4 (pc := 45) C dX7_longestLevel_45 (by decide) ?_
        exact ih4 x2 x9
      · refine r_icmp_eq 40 (pc := 22) C dX7_longestLevel_22 (by decide) ?_ ?_
        · refine r_sub (lv' := [(0, .ref (q 36)), (1, .int c1), (3, .int x2)]) [0, 1, 3] rfl ?_
          exact hk11
        · refine r_aload_n (pc := 25) C dX7_longestLevel_25 0 rfl ?_
          refine r_iload_n (pc := 26) C dX7_longestLevel_26 3 rfl ?_
          refine r_iload_n (pc := 27) C dX7_longestLevel_27 1 rfl ?_
          refine r_cVpi (As := [.int x2, .int c1]) (st := []) (pc := 28) C (fun _ h => c_X7_daysOfLevel_l1 h) kY_X7_daysOfLevel kw_4_183 kw_4_184 kw_4_182 rfl ⟨Nat.le_of_ble_eq_true rfl, Nat.le_of_ble_eq_true rfl⟩ rfl rfl ⟨Nat.zero_le _, Nat.zero_le _⟩ 35 rfl rfl rfl (Nat.le_of_ble_eq_true rfl) dX7_longestLevel_28 (fun x12 => ?_)
          refine r_aload_n (pc := 31) C dX7_longestLevel_31 0 rfl ?_
          refine r_iload_n (pc := 32) C dX7_longestLevel_32 2 rfl ?_
          refine r_iload_n (pc := 33) C dX7_longestLevel_33 1 rfl ?_
          refine r_cVpi (As := [.int x1, .int c1]) (st := [.int x12]) (pc := 34) C (fun _ h => c_X7_daysOfLevel_l1 h) kY_X7_daysOfLevel kw_4_183 kw_4_184 kw_4_182 rfl ⟨Nat.le_of_ble_eq_true rfl, Nat.le_of_ble_eq_true rfl⟩ rfl rfl ⟨Nat.zero_le _, Nat.zero_le _⟩ 35 rfl rfl rfl (Nat.le_of_ble_eq_true rfl) dX7_longestLevel_34 (fun x13 => ?_)
          refine r_icmp_le 42 (pc := 37) C dX7_longestLevel_37 (by decide) ?_ ?_
          · refine r_iinc (pc := 42) C dX7_longestLevel_42 (v := 1) (lv' := fun x14 => [(0, .ref (q 36)), (1, .int c1), (2, .int x1), (3, .int x14)]) 3 rfl (by decide) (by decide) [1, 2, 3, 0] (fun _ => rfl) (fun x14 => ?_)
            refine r_goto 4 (pc := 45) C dX7_longestLevel_45 (by decide) ?_
            exact ih4 x1 x14
          · refine r_sub (lv' := [(0, .ref (q 36)), (1, .int c1), (3, .int x2)]) [0, 1, 3] rfl ?_
            exact hk11
def f_X7_longestLevel_l1 (S : CS) (a1 : Int32) : Option (Int32) :=
  L_X7_longestLevel_l1_4 S a1 (fun x16 =>
  some x16) FU (-1) 0
set_option maxRecDepth 100000 in
set_option maxHeartbeats 4000000 in
theorem c_X7_longestLevel_l1 {g : KG} {q : Nat → Nat} {E : va_W} {S : CS} {a1 : Int32} {r : Int32} (h : f_X7_longestLevel_l1 S a1 = some r) : ∀ l, kM l yX7_longestLevel cX7_longestLevel 4 (some .int) rm_X7_longestLevel_l1 g [.ref (q 36), .int a1] (cx g q E S) (cx g q E S) (some (.int r)) 0 0 := by
  refine k_open_i (own := "MarkChains$Line") (by decide) rfl (Nat.le_of_ble_eq_true rfl) (fun X C hR => ?_)
  refine (?_ : jJ X g (r : Int32) (cx g q E S) 0 0 0 [(0, .ref (q 36)), (1, .int a1)] [] (f_X7_longestLevel_l1 S a1)) h
  unfold f_X7_longestLevel_l1
  refine r_iconst (pc := 0) C dX7_longestLevel_0 (v := (-1)) (by decide) ?_
  refine r_istore_n (pc := 1) C dX7_longestLevel_1 (lv' := [(0, .ref (q 36)), (1, .int a1), (2, .int (-1))]) (by decide) [1, 2, 0] rfl ?_
  refine r_iconst (pc := 2) C dX7_longestLevel_2 (v := 0) (by decide) ?_
  refine r_istore_n (pc := 3) C dX7_longestLevel_3 (lv' := [(0, .ref (q 36)), (1, .int a1), (2, .int (-1)), (3, .int 0)]) (by decide) [1, 2, 3, 0] rfl ?_
  refine l_X7_longestLevel_l1_4 C hR a1 _ (fun x16 => ?_) FU (-1) 0
  refine r_iload_n (pc := 48) C dX7_longestLevel_48 0 rfl ?_
  exact r_retPI hR (pc := 49) dX7_longestLevel_49
abbrev rm_X11_stood : Room := { frames := 5, cells := 0, slots := 0, locals := 117 }
theorem kY_X11_stood : kY yX11_stood cX11_stood 6 (some .int) 4 := ⟨kw_1_1, kw_4_197, by decide, by decide, by decide +kernel⟩
def f_X11_stood (S : CS) (a1 : Int32) (a2 : Int32) (a3 : Int32) (a4 : Int32) : Option (Int32 × CS) :=
  (if a4 < 0 then
  some ((-2), S)
 else
  (if 1 < a4 then
  some ((-2), S)
 else
  bw (f_X11_fillChain S a1 a2 a3) (fun x1 S2 =>
  (if x1 = true then
  bp (f_X7_longestLevel_l1 S2 a3) (fun x3 =>
  (if x3 = (-1) then
  (if a4 = 0 then
  some (0, S2)
 else
  some ((-1), S2))
 else
  (if a4 = 0 then
  bp (f_X7_daysOfLevel_l1 S2 x3 a3) (fun x4 =>
  some (x4, S2))
 else
  chk x3 60 (
  some (S2.2.1 37 x3.toNatClampNeg, S2)))))
 else
  some ((-2), S2)))))
set_option maxRecDepth 100000 in
set_option maxHeartbeats 4000000 in
theorem c_X11_stood {g : KG} {q : Nat → Nat} {E : va_W} {S : CS} {a1 : Int32} {a2 : Int32} {a3 : Int32} {a4 : Int32} {r : Int32} {S' : CS} (h : f_X11_stood S a1 a2 a3 a4 = some (r, S')) : ∀ l, kM l yX11_stood cX11_stood 6 (some .int) rm_X11_stood g [.ref (q 0), .int a1, .int a2, .int a3, .int a4] (cx g q E S) (cx g q E S') (some (.int r)) 0 0 := by
  refine k_open_i (own := "MarkChains") (by decide) rfl (Nat.le_of_ble_eq_true rfl) (fun X C hR => ?_)
  refine (?_ : jJ X g ((r, S') : Int32 × CS) (cx g q E S) 0 0 0 [(0, .ref (q 0)), (1, .int a1), (2, .int a2), (3, .int a3), (4, .int a4)] [] (f_X11_stood S a1 a2 a3 a4)) h
  unfold f_X11_stood
  refine r_iload (pc := 0) C dX11_stood_0 4 rfl ?_
  refine r_if_lt 21 (pc := 2) C dX11_stood_2 (by decide) ?_ ?_
  · refine r_bipush (pc := 21) C dX11_stood_21 (v := (-2)) (by decide) ?_
    exact r_retWI (wf := cx g q E) hR (pc := 23) dX11_stood_23
  · refine r_iload (pc := 5) C dX11_stood_5 4 rfl ?_
    refine r_iconst (pc := 7) C dX11_stood_7 (v := 1) (by decide) ?_
    refine r_icmp_gt 21 (pc := 8) C dX11_stood_8 (by decide) ?_ ?_
    · refine r_bipush (pc := 21) C dX11_stood_21 (v := (-2)) (by decide) ?_
      exact r_retWI (wf := cx g q E) hR (pc := 23) dX11_stood_23
    · refine r_aload_n (pc := 11) C dX11_stood_11 0 rfl ?_
      refine r_iload_n (pc := 12) C dX11_stood_12 1 rfl ?_
      refine r_iload_n (pc := 13) C dX11_stood_13 2 rfl ?_
      refine r_iload_n (pc := 14) C dX11_stood_14 3 rfl ?_
      refine r_cVwz (As := [.int a1, .int a2, .int a3]) (st := []) (wf := cx g q E) (pc := 15) C (fun _ _ h => c_X11_fillChain h) kY_X11_fillChain kw_4_107 kw_0_24 kw_4_105 rfl ⟨Nat.le_of_ble_eq_true rfl, Nat.le_of_ble_eq_true rfl⟩ rfl rfl ⟨Nat.zero_le _, Nat.zero_le _⟩ 0 rfl rfl rfl (Nat.le_of_ble_eq_true rfl) dX11_stood_15 (fun x1 S2 => ?_)
      refine r_ifb_ne 24 (pc := 18) C dX11_stood_18 (by decide) ?_ ?_
      · refine r_aload_n (pc := 24) C dX11_stood_24 0 rfl ?_
        refine xg_x_line (pc := 25) C kw_2_80 dX11_stood_25 ?_
        refine r_iload_n (pc := 28) C dX11_stood_28 3 rfl ?_
        refine r_cVpi (As := [.int a3]) (st := []) (pc := 29) C (fun _ h => c_X7_longestLevel_l1 h) kY_X7_longestLevel kw_4_199 kw_4_200 kw_4_198 rfl ⟨Nat.le_of_ble_eq_true rfl, Nat.le_of_ble_eq_true rfl⟩ rfl rfl ⟨Nat.zero_le _, Nat.zero_le _⟩ 35 rfl rfl rfl (Nat.le_of_ble_eq_true rfl) dX11_stood_29 (fun x3 => ?_)
        refine r_istore (pc := 32) C dX11_stood_32 (lv' := [(0, .ref (q 0)), (1, .int a1), (2, .int a2), (3, .int a3), (4, .int a4), (5, .int x3)]) (by decide) [1, 2, 3, 4, 5, 0] rfl ?_
        refine r_iload (pc := 34) C dX11_stood_34 5 rfl ?_
        refine r_iconst (pc := 36) C dX11_stood_36 (v := (-1)) (by decide) ?_
        refine r_icmp_ne 51 (pc := 37) C dX11_stood_37 (by decide) ?_ ?_
        · refine r_iload (pc := 51) C dX11_stood_51 4 rfl ?_
          refine r_if_ne 69 (pc := 53) C dX11_stood_53 (by decide) ?_ ?_
          · refine r_aload_n (pc := 69) C dX11_stood_69 0 rfl ?_
            refine xg_x_line (pc := 70) C kw_2_80 dX11_stood_70 ?_
            refine xgN_l1_numbers (pc := 73) C knf_36 dX11_stood_73 ?_
            refine r_iload (pc := 76) C dX11_stood_76 5 rfl ?_
            refine xl_l1_numbers (pc := 78) C dX11_stood_78 ?_
            exact r_retWI (wf := cx g q E) hR (pc := 79) dX11_stood_79
          · refine r_aload_n (pc := 56) C dX11_stood_56 0 rfl ?_
            refine xg_x_line (pc := 57) C kw_2_80 dX11_stood_57 ?_
            refine r_iload (pc := 60) C dX11_stood_60 5 rfl ?_
            refine r_iload_n (pc := 62) C dX11_stood_62 3 rfl ?_
            refine r_cVpi (As := [.int x3, .int a3]) (st := []) (pc := 63) C (fun _ h => c_X7_daysOfLevel_l1 h) kY_X7_daysOfLevel kw_4_183 kw_4_184 kw_4_202 rfl ⟨Nat.le_of_ble_eq_true rfl, Nat.le_of_ble_eq_true rfl⟩ rfl rfl ⟨Nat.zero_le _, Nat.zero_le _⟩ 35 rfl rfl rfl (Nat.le_of_ble_eq_true rfl) dX11_stood_63 (fun x4 => ?_)
            refine r_goto 79 (pc := 66) C dX11_stood_66 (by decide) ?_
            exact r_retWI (wf := cx g q E) hR (pc := 79) dX11_stood_79
        · refine r_iload (pc := 40) C dX11_stood_40 4 rfl ?_
          refine r_if_ne 49 (pc := 42) C dX11_stood_42 (by decide) ?_ ?_
          · refine r_iconst (pc := 49) C dX11_stood_49 (v := (-1)) (by decide) ?_
            exact r_retWI (wf := cx g q E) hR (pc := 50) dX11_stood_50
          · refine r_iconst (pc := 45) C dX11_stood_45 (v := 0) (by decide) ?_
            refine r_goto 50 (pc := 46) C dX11_stood_46 (by decide) ?_
            exact r_retWI (wf := cx g q E) hR (pc := 50) dX11_stood_50
      · refine r_bipush (pc := 21) C dX11_stood_21 (v := (-2)) (by decide) ?_
        exact r_retWI (wf := cx g q E) hR (pc := 23) dX11_stood_23
set_option maxRecDepth 100000 in
theorem w_X11_stood {S : CS} {a1 : Int32} {a2 : Int32} {a3 : Int32} {a4 : Int32} {r : Int32} {S' : CS} (h : f_X11_stood S a1 a2 a3 a4 = some (r, S')) : gI [21] [37] S S' := by
  have hS : gI [21] [37] S S := gI_rf
  refine (?_ : jf (gI [21] [37] S) Prod.snd (f_X11_stood S a1 a2 a3 a4)) _ h
  unfold f_X11_stood
  refine f_ite ?_ ?_
  · exact f_some hS
  · refine f_ite ?_ ?_
    · exact f_some hS
    · refine f_bwS (fun _ _ h => gI_tr hS (w_X11_fillChain h) (by decide) (by decide)) (fun x1 S2 hS2 => ?_)
      refine f_ite ?_ ?_
      · refine f_bp (fun x3 => ?_)
        refine f_ite ?_ ?_
        · refine f_ite ?_ ?_
          · exact f_some hS2
          · exact f_some hS2
        · refine f_ite ?_ ?_
          · refine f_bp (fun x4 => ?_)
            exact f_some hS2
          · refine f_chk ?_
            exact f_some hS2
      · exact f_some hS2
abbrev rm_X7_append_l2 : Room := { frames := 0, cells := 0, slots := 0, locals := 0 }
def f_X7_append_l2 (S : CS) (a1 : Int32) : Option (CS) :=
  (if 60 ≤ (S.1 22) then
  some S
 else
  chk (S.1 22) 60 (lt (ca S 40 (upd (S.2.1 40) (S.1 22).toNatClampNeg a1)) fun S1 =>
  lt (ci S1 22 ((S1.1 22) + 1)) fun S2 =>
  some S2))
set_option maxRecDepth 100000 in
set_option maxHeartbeats 4000000 in
theorem c_X7_append_l2 {g : KG} {q : Nat → Nat} {E : va_W} {S : CS} {a1 : Int32} {S' : CS} (h : f_X7_append_l2 S a1 = some S') : ∀ l, kM l yX7_append cX7_append 2 none rm_X7_append_l2 g [.ref (q 39), .int a1] (cx g q E S) (cx g q E S') (none) 0 0 := by
  refine k_open_v (own := "MarkChains$Line") (by decide) rfl (Nat.le_of_ble_eq_true rfl) (fun X C hR => ?_)
  refine (?_ : jJ X g (S' : CS) (cx g q E S) 0 0 0 [(0, .ref (q 39)), (1, .int a1)] [] (f_X7_append_l2 S a1)) h
  unfold f_X7_append_l2
  refine r_aload_n (pc := 0) C dX7_append_0 0 rfl ?_
  refine xg_l2_size (pc := 1) C kw_2_29 dX7_append_1 ?_
  refine r_bipush (pc := 4) C dX7_append_4 (v := 60) (by decide) ?_
  refine r_icmp_ge 29 (pc := 6) C dX7_append_6 (by decide) ?_ ?_
  · exact r_retWV (wf := cx g q E) hR (pc := 29) dX7_append_29
  · refine r_aload_n (pc := 9) C dX7_append_9 0 rfl ?_
    refine xg_l2_numbers (pc := 10) C kw_2_26 dX7_append_10 ?_
    refine r_aload_n (pc := 13) C dX7_append_13 0 rfl ?_
    refine xg_l2_size (pc := 14) C kw_2_29 dX7_append_14 ?_
    refine r_iload_n (pc := 17) C dX7_append_17 1 rfl ?_
    refine xs_l2_numbers (pc := 18) C dX7_append_18 (fun S1 => ?_)
    refine r_aload_n (pc := 19) C dX7_append_19 0 rfl ?_
    refine r_dup (pc := 20) C dX7_append_20 rfl ?_
    refine xg_l2_size (pc := 21) C kw_2_29 dX7_append_21 ?_
    refine r_iconst (pc := 24) C dX7_append_24 (v := 1) (by decide) ?_
    refine r_iadd (pc := 25) C dX7_append_25 ?_
    refine xp_l2_size (pc := 26) C kw_2_29 dX7_append_26 (fun S2 => ?_)
    exact r_retWV (wf := cx g q E) hR (pc := 29) dX7_append_29
set_option maxRecDepth 100000 in
theorem w_X7_append_l2 {S : CS} {a1 : Int32} {S' : CS} (h : f_X7_append_l2 S a1 = some S') : gI [22] [40] S S' := by
  have hS : gI [22] [40] S S := gI_rf
  refine (?_ : jf (gI [22] [40] S) id (f_X7_append_l2 S a1)) _ h
  unfold f_X7_append_l2
  refine f_ite ?_ ?_
  · exact f_some hS
  · refine f_chk (f_ltS (gI_ca hS (by decide)) (fun S1 hS1 => ?_))
    refine f_ltS (gI_ci hS1 (by decide)) (fun S2 hS2 => ?_)
    exact f_some hS2
abbrev rm_X7_fillWithChain_l2 : Room := { frames := 3, cells := 0, slots := 0, locals := 68 }
def L_X7_fillWithChain_l2_8 (c1 : Int32) (c2 : Int32) (c3 : Int32) (c4 : Int32) (k6 : CS → Option (CS)) : Nat → CS → Int32 → Option (CS) := lo2 fun rec4 S3 x2 =>
  (if (S3.1 6) ≤ x2 then
  k6 S3
 else
  chk x2 60 (
  lt (S3.2.1 24 x2.toNatClampNeg) fun x8 =>
  (if x8 = c4 then
  lt (x2 + 1) fun x9 =>
  rec4 S3 x9
 else
  bp (f_X1_isListed S3 x8 c1 c2 c3) (fun x10 =>
  (if x10 = true then
  jn0 (bp (f_X7_append_l2 S3 x8) (fun S12 =>
  lt (x2 + 1) fun x13 =>
  rec4 S12 x13)) (fun k14 =>
  (if (S3.1 22) = 0 then
  k14
 else
  chk ((S3.1 22) - 1) 60 (
  bp (f_X1_isBetter S3 (S3.2.1 40 ((S3.1 22) - 1).toNatClampNeg) x8) (fun x16 =>
  (if x16 = true then
  lt (x2 + 1) fun x17 =>
  rec4 S3 x17
 else
  k14)))))
 else
  lt (x2 + 1) fun x11 =>
  rec4 S3 x11)))))
set_option maxRecDepth 100000 in
set_option maxHeartbeats 4000000 in
theorem l_X7_fillWithChain_l2_8 {X : KX} {g : KG} {q : Nat → Nat} {E : va_W} {res : CS} (C : kC X g cX7_fillWithChain "MarkChains$Line" rm_X7_fillWithChain_l2 7) (hR : ∀ (pc : Nat) (lv : List (Nat × Value)), decode cX7_fillWithChain pc = .ok (.return_, 1) → jW X g (cx g q E res) 0 0 pc lv []) (c1 : Int32) (c2 : Int32) (c3 : Int32) (c4 : Int32) (k6 : CS → Option (CS)) (hk7 : ∀ (S18 : CS), jJ X g res (cx g q E S18) 0 0 96 [] [] (k6 S18)) : ∀ (n : Nat) (S3 : CS) (x2 : Int32), jJ X g res (cx g q E S3) 0 0 8 [(0, .ref (q 39)), (1, .int c1), (2, .int c2), (3, .int c3), (4, .int c4), (5, .int x2)] [] (L_X7_fillWithChain_l2_8 c1 c2 c3 c4 k6 n S3 x2) := by
  refine r_lo2 (fun S3 x2 => cx g q E S3) (fun S3 x2 => [(0, .ref (q 39)), (1, .int c1), (2, .int c2), (3, .int c3), (4, .int c4), (5, .int x2)]) (fun rec4 ih5 S3 x2 => ?_)
  refine r_iload (pc := 8) C dX7_fillWithChain_8 5 rfl ?_
  refine r_aload_n (pc := 10) C dX7_fillWithChain_10 0 rfl ?_
  refine xg_l2_book (pc := 11) C kw_2_25 dX7_fillWithChain_11 ?_
  refine xgN_bk_size (pc := 14) C knf_29 dX7_fillWithChain_14 ?_
  refine r_icmp_ge 96 (pc := 17) C dX7_fillWithChain_17 (by decide) ?_ ?_
  · refine r_sub (lv' := []) [] rfl ?_
    exact hk7 S3
  · refine r_aload_n (pc := 20) C dX7_fillWithChain_20 0 rfl ?_
    refine xg_l2_book (pc := 21) C kw_2_25 dX7_fillWithChain_21 ?_
    refine xgN_bk_order (pc := 24) C knf_28 dX7_fillWithChain_24 ?_
    refine r_iload (pc := 27) C dX7_fillWithChain_27 5 rfl ?_
    refine xl_bk_order (pc := 29) C dX7_fillWithChain_29 ?_
    refine r_istoreV (pc := 30) C dX7_fillWithChain_30 (lv' := fun x8 => [(0, .ref (q 39)), (1, .int c1), (2, .int c2), (3, .int c3), (4, .int c4), (5, .int x2), (6, .int x8)]) (by decide) [1, 2, 3, 4, 5, 6, 0] (fun _ => rfl) (fun x8 => ?_)
    refine r_iload (pc := 32) C dX7_fillWithChain_32 6 rfl ?_
    refine r_iload (pc := 34) C dX7_fillWithChain_34 4 rfl ?_
    refine r_icmp_eq 90 (pc := 36) C dX7_fillWithChain_36 (by decide) ?_ ?_
    · refine r_iinc (pc := 90) C dX7_fillWithChain_90 (v := 1) (lv' := fun x9 => [(0, .ref (q 39)), (1, .int c1), (2, .int c2), (3, .int c3), (4, .int c4), (5, .int x9), (6, .int x8)]) 5 rfl (by decide) (by decide) [1, 2, 3, 4, 5, 0, 6] (fun _ => rfl) (fun x9 => ?_)
      refine r_goto 8 (pc := 93) C dX7_fillWithChain_93 (by decide) ?_
      refine r_sub (lv' := [(0, .ref (q 39)), (1, .int c1), (2, .int c2), (3, .int c3), (4, .int c4), (5, .int x9)]) [0, 1, 2, 3, 4, 5] rfl ?_
      exact ih5 S3 x9
    · refine r_aload_n (pc := 39) C dX7_fillWithChain_39 0 rfl ?_
      refine xg_l2_book (pc := 40) C kw_2_25 dX7_fillWithChain_40 ?_
      refine r_iload (pc := 43) C dX7_fillWithChain_43 6 rfl ?_
      refine r_iload_n (pc := 45) C dX7_fillWithChain_45 1 rfl ?_
      refine r_iload_n (pc := 46) C dX7_fillWithChain_46 2 rfl ?_
      refine r_iload_n (pc := 47) C dX7_fillWithChain_47 3 rfl ?_
      refine r_cVpz (As := [.int x8, .int c1, .int c2, .int c3]) (st := []) (pc := 48) C (fun _ h => c_X1_isListed h) kY_X1_isListed kw_4_121 kw_4_122 kw_4_120 rfl ⟨Nat.le_of_ble_eq_true rfl, Nat.le_of_ble_eq_true rfl⟩ rfl rfl ⟨Nat.zero_le _, Nat.zero_le _⟩ 3 rfl rfl rfl (Nat.le_of_ble_eq_true rfl) dX7_fillWithChain_48 (fun x10 => ?_)
      refine r_ifb_eq 90 (pc := 51) C dX7_fillWithChain_51 (by decide) ?_ ?_
      · refine r_iinc (pc := 90) C dX7_fillWithChain_90 (v := 1) (lv' := fun x11 => [(0, .ref (q 39)), (1, .int c1), (2, .int c2), (3, .int c3), (4, .int c4), (5, .int x11), (6, .int x8)]) 5 rfl (by decide) (by decide) [1, 2, 3, 4, 5, 0, 6] (fun _ => rfl) (fun x11 => ?_)
        refine r_goto 8 (pc := 93) C dX7_fillWithChain_93 (by decide) ?_
        refine r_sub (lv' := [(0, .ref (q 39)), (1, .int c1), (2, .int c2), (3, .int c3), (4, .int c4), (5, .int x11)]) [0, 1, 2, 3, 4, 5] rfl ?_
        exact ih5 S3 x11
      · refine r_aload_n (pc := 54) C dX7_fillWithChain_54 0 rfl ?_
        refine xg_l2_size (pc := 55) C kw_2_29 dX7_fillWithChain_55 ?_
        refine r_jn0 84 (cx g q E S3) ([(0, .ref (q 39)), (1, .int c1), (2, .int c2), (3, .int c3), (4, .int c4), (5, .int x2), (6, .int x8)]) ([]) ?_ (fun k14 hk15 => ?_)
        · refine r_aload_n (pc := 84) C dX7_fillWithChain_84 0 rfl ?_
          refine r_iload (pc := 85) C dX7_fillWithChain_85 6 rfl ?_
          refine r_cVwv (As := [.int x8]) (st := []) (wf := cx g q E) (pc := 87) C (fun _ h => c_X7_append_l2 h) kY_X7_append kw_4_139 kw_0_26 kw_4_137 rfl ⟨Nat.le_of_ble_eq_true rfl, Nat.le_of_ble_eq_true rfl⟩ rfl rfl ⟨Nat.zero_le _, Nat.zero_le _⟩ 38 rfl rfl rfl (Nat.le_of_ble_eq_true rfl) dX7_fillWithChain_87 (fun S12 => ?_)
          refine r_iinc (pc := 90) C dX7_fillWithChain_90 (v := 1) (lv' := fun x13 => [(0, .ref (q 39)), (1, .int c1), (2, .int c2), (3, .int c3), (4, .int c4), (5, .int x13), (6, .int x8)]) 5 rfl (by decide) (by decide) [1, 2, 3, 4, 5, 0, 6] (fun _ => rfl) (fun x13 => ?_)
          refine r_goto 8 (pc := 93) C dX7_fillWithChain_93 (by decide) ?_
          refine r_sub (lv' := [(0, .ref (q 39)), (1, .int c1), (2, .int c2), (3, .int c3), (4, .int c4), (5, .int x13)]) [0, 1, 2, 3, 4, 5] rfl ?_
          exact ih5 S12 x13
        · refine r_if_eq 84 (pc := 58) C dX7_fillWithChain_58 (by decide) ?_ ?_
          · exact hk15
          · refine r_aload_n (pc := 61) C dX7_fillWithChain_61 0 rfl ?_
            refine xg_l2_book (pc := 62) C kw_2_25 dX7_fillWithChain_62 ?_
            refine r_aload_n (pc := 65) C dX7_fillWithChain_65 0 rfl ?_
            refine xg_l2_numbers (pc := 66) C kw_2_26 dX7_fillWithChain_66 ?_
            refine r_aload_n (pc := 69) C dX7_fillWithChain_69 0 rfl ?_
            refine xg_l2_size (pc := 70) C kw_2_29 dX7_fillWithChain_70 ?_
            refine r_iconst (pc := 73) C dX7_fillWithChain_73 (v := 1) (by decide) ?_
            refine r_isub (pc := 74) C dX7_fillWithChain_74 ?_
            refine xl_l2_numbers (pc := 75) C dX7_fillWithChain_75 ?_
            refine r_iload (pc := 76) C dX7_fillWithChain_76 6 rfl ?_
            refine r_cVpz (As := [.int (S3.2.1 40 ((S3.1 22) - 1).toNatClampNeg), .int x8]) (st := []) (pc := 78) C (fun _ h => c_X1_isBetter h) kY_X1_isBetter kw_4_126 kw_4_127 kw_4_125 rfl ⟨Nat.le_of_ble_eq_true rfl, Nat.le_of_ble_eq_true rfl⟩ rfl rfl ⟨Nat.zero_le _, Nat.zero_le _⟩ 3 rfl rfl rfl (Nat.le_of_ble_eq_true rfl) dX7_fillWithChain_78 (fun x16 => ?_)
            refine r_ifb_ne 90 (pc := 81) C dX7_fillWithChain_81 (by decide) ?_ ?_
            · refine r_iinc (pc := 90) C dX7_fillWithChain_90 (v := 1) (lv' := fun x17 => [(0, .ref (q 39)), (1, .int c1), (2, .int c2), (3, .int c3), (4, .int c4), (5, .int x17), (6, .int x8)]) 5 rfl (by decide) (by decide) [1, 2, 3, 4, 5, 0, 6] (fun _ => rfl) (fun x17 => ?_)
              refine r_goto 8 (pc := 93) C dX7_fillWithChain_93 (by decide) ?_
              refine r_sub (lv' := [(0, .ref (q 39)), (1, .int c1), (2, .int c2), (3, .int c3), (4, .int c4), (5, .int x17)]) [0, 1, 2, 3, 4, 5] rfl ?_
              exact ih5 S3 x17
            · exact hk15
set_option maxRecDepth 100000 in
theorem v_X7_fillWithChain_l2_8 {S0 : CS} {c1 : Int32} {c2 : Int32} {c3 : Int32} {c4 : Int32} {k6 : CS → Option (CS)} (hk7 : ∀ (S18 : CS), (gI [22] [40] S0) S18 → jf (gI [22] [40] S0) id (k6 S18)) : ∀ (n : Nat) (S3 : CS) (x2 : Int32), (gI [22] [40] S0) S3 → jf (gI [22] [40] S0) id (L_X7_fillWithChain_l2_8 c1 c2 c3 c4 k6 n S3 x2) := by
  refine f_lo2 (I := (gI [22] [40] S0)) (fun S3 x2 => S3) (fun rec4 ih5 S3 x2 hS3 => ?_)
  refine f_ite ?_ ?_
  · exact hk7 S3 hS3
  · refine f_chk ?_
    refine f_lt (fun x8 => ?_)
    refine f_ite ?_ ?_
    · refine f_lt (fun x9 => ?_)
      exact ih5 S3 x9 hS3
    · refine f_bp (fun x10 => ?_)
      refine f_ite ?_ ?_
      · refine f_jm0 hS3 (fun  hS3 => ?_) (fun k14 hk15 => ?_)
        · refine f_bpS (fun _ h => gI_tr hS3 (w_X7_append_l2 h) (by decide) (by decide)) (fun S12 hS12 => ?_)
          refine f_lt (fun x13 => ?_)
          exact ih5 S12 x13 hS12
        · refine f_ite ?_ ?_
          · exact hk15 hS3
          · refine f_chk ?_
            refine f_bp (fun x16 => ?_)
            refine f_ite ?_ ?_
            · refine f_lt (fun x17 => ?_)
              exact ih5 S3 x17 hS3
            · exact hk15 hS3
      · refine f_lt (fun x11 => ?_)
        exact ih5 S3 x11 hS3
def f_X7_fillWithChain_l2 (S : CS) (a1 : Int32) (a2 : Int32) (a3 : Int32) (a4 : Int32) : Option (CS) :=
  lt (ci S 22 0) fun S1 =>
  L_X7_fillWithChain_l2_8 a1 a2 a3 a4 (fun S19 =>
  some S19) FU S1 0
set_option maxRecDepth 100000 in
set_option maxHeartbeats 4000000 in
theorem c_X7_fillWithChain_l2 {g : KG} {q : Nat → Nat} {E : va_W} {S : CS} {a1 : Int32} {a2 : Int32} {a3 : Int32} {a4 : Int32} {S' : CS} (h : f_X7_fillWithChain_l2 S a1 a2 a3 a4 = some S') : ∀ l, kM l yX7_fillWithChain cX7_fillWithChain 7 none rm_X7_fillWithChain_l2 g [.ref (q 39), .int a1, .int a2, .int a3, .int a4] (cx g q E S) (cx g q E S') (none) 0 0 := by
  refine k_open_v (own := "MarkChains$Line") (by decide) rfl (Nat.le_of_ble_eq_true rfl) (fun X C hR => ?_)
  refine (?_ : jJ X g (S' : CS) (cx g q E S) 0 0 0 [(0, .ref (q 39)), (1, .int a1), (2, .int a2), (3, .int a3), (4, .int a4)] [] (f_X7_fillWithChain_l2 S a1 a2 a3 a4)) h
  unfold f_X7_fillWithChain_l2
  refine r_aload_n (pc := 0) C dX7_fillWithChain_0 0 rfl ?_
  refine r_iconst (pc := 1) C dX7_fillWithChain_1 (v := 0) (by decide) ?_
  refine xp_l2_size (pc := 2) C kw_2_29 dX7_fillWithChain_2 (fun S1 => ?_)
  refine r_iconst (pc := 5) C dX7_fillWithChain_5 (v := 0) (by decide) ?_
  refine r_istore (pc := 6) C dX7_fillWithChain_6 (lv' := [(0, .ref (q 39)), (1, .int a1), (2, .int a2), (3, .int a3), (4, .int a4), (5, .int 0)]) (by decide) [1, 2, 3, 4, 5, 0] rfl ?_
  refine l_X7_fillWithChain_l2_8 C hR a1 a2 a3 a4 _ (fun S19 => ?_) FU S1 0
  exact r_retWV (wf := cx g q E) hR (pc := 96) dX7_fillWithChain_96
set_option maxRecDepth 100000 in
theorem w_X7_fillWithChain_l2 {S : CS} {a1 : Int32} {a2 : Int32} {a3 : Int32} {a4 : Int32} {S' : CS} (h : f_X7_fillWithChain_l2 S a1 a2 a3 a4 = some S') : gI [22] [40] S S' := by
  have hS : gI [22] [40] S S := gI_rf
  refine (?_ : jf (gI [22] [40] S) id (f_X7_fillWithChain_l2 S a1 a2 a3 a4)) _ h
  unfold f_X7_fillWithChain_l2
  refine f_ltS (gI_ci hS (by decide)) (fun S1 hS1 => ?_)
  refine v_X7_fillWithChain_l2_8 (fun S19 hS19 => ?_) FU S1 0 hS1
  exact f_some hS19
abbrev rm_X7_placeOf_l1 : Room := { frames := 0, cells := 0, slots := 0, locals := 0 }
theorem kY_X7_placeOf : kY yX7_placeOf cX7_placeOf 3 (some .int) 1 := ⟨kw_1_10, kw_4_214, by decide, by decide, by decide +kernel⟩
def L_X7_placeOf_l1_2 (S : CS) (c1 : Int32) (k4 : Option (Int32)) : Nat → Int32 → Option (Int32) := lo1 fun rec2 x1 =>
  (if (S.1 21) ≤ x1 then
  k4
 else
  chk x1 60 (
  (if (S.2.1 37 x1.toNatClampNeg) = c1 then
  some x1
 else
  lt (x1 + 1) fun x6 =>
  rec2 x6)))
set_option maxRecDepth 100000 in
set_option maxHeartbeats 4000000 in
theorem l_X7_placeOf_l1_2 {X : KX} {g : KG} {q : Nat → Nat} {E : va_W} {res : Int32} {S : CS} (C : kC X g cX7_placeOf "MarkChains$Line" rm_X7_placeOf_l1 3) (hR : ∀ (pc : Nat) (lv : List (Nat × Value)), decode cX7_placeOf pc = .ok (.ireturn, 1) → jW X g (cx g q E S) 0 0 pc lv [.int res]) (c1 : Int32) (k4 : Option (Int32)) (hk5 : jJ X g res (cx g q E S) 0 0 28 [] [] k4) : ∀ (n : Nat) (x1 : Int32), jJ X g res (cx g q E S) 0 0 2 [(0, .ref (q 36)), (1, .int c1), (2, .int x1)] [] (L_X7_placeOf_l1_2 S c1 k4 n x1) := by
  refine r_lo1 (fun x1 => cx g q E S) (fun x1 => [(0, .ref (q 36)), (1, .int c1), (2, .int x1)]) (fun rec2 ih3 x1 => ?_)
  refine r_iload_n (pc := 2) C dX7_placeOf_2 2 rfl ?_
  refine r_aload_n (pc := 3) C dX7_placeOf_3 0 rfl ?_
  refine xg_l1_size (pc := 4) C kw_2_29 dX7_placeOf_4 ?_
  refine r_icmp_ge 28 (pc := 7) C dX7_placeOf_7 (by decide) ?_ ?_
  · refine r_sub (lv' := []) [] rfl ?_
    exact hk5
  · refine r_aload_n (pc := 10) C dX7_placeOf_10 0 rfl ?_
    refine xg_l1_numbers (pc := 11) C kw_2_26 dX7_placeOf_11 ?_
    refine r_iload_n (pc := 14) C dX7_placeOf_14 2 rfl ?_
    refine xl_l1_numbers (pc := 15) C dX7_placeOf_15 ?_
    refine r_iload_n (pc := 16) C dX7_placeOf_16 1 rfl ?_
    refine r_icmp_ne 22 (pc := 17) C dX7_placeOf_17 (by decide) ?_ ?_
    · refine r_iinc (pc := 22) C dX7_placeOf_22 (v := 1) (lv' := fun x6 => [(0, .ref (q 36)), (1, .int c1), (2, .int x6)]) 2 rfl (by decide) (by decide) [1, 2, 0] (fun _ => rfl) (fun x6 => ?_)
      refine r_goto 2 (pc := 25) C dX7_placeOf_25 (by decide) ?_
      exact ih3 x6
    · refine r_iload_n (pc := 20) C dX7_placeOf_20 2 rfl ?_
      exact r_retPI hR (pc := 21) dX7_placeOf_21
def f_X7_placeOf_l1 (S : CS) (a1 : Int32) : Option (Int32) :=
  L_X7_placeOf_l1_2 S a1 (some (-1)) FU 0
set_option maxRecDepth 100000 in
set_option maxHeartbeats 4000000 in
theorem c_X7_placeOf_l1 {g : KG} {q : Nat → Nat} {E : va_W} {S : CS} {a1 : Int32} {r : Int32} (h : f_X7_placeOf_l1 S a1 = some r) : ∀ l, kM l yX7_placeOf cX7_placeOf 3 (some .int) rm_X7_placeOf_l1 g [.ref (q 36), .int a1] (cx g q E S) (cx g q E S) (some (.int r)) 0 0 := by
  refine k_open_i (own := "MarkChains$Line") (by decide) rfl (Nat.le_of_ble_eq_true rfl) (fun X C hR => ?_)
  refine (?_ : jJ X g (r : Int32) (cx g q E S) 0 0 0 [(0, .ref (q 36)), (1, .int a1)] [] (f_X7_placeOf_l1 S a1)) h
  unfold f_X7_placeOf_l1
  refine r_iconst (pc := 0) C dX7_placeOf_0 (v := 0) (by decide) ?_
  refine r_istore_n (pc := 1) C dX7_placeOf_1 (lv' := [(0, .ref (q 36)), (1, .int a1), (2, .int 0)]) (by decide) [1, 2, 0] rfl ?_
  refine l_X7_placeOf_l1_2 C hR a1 _ (?_) FU 0
  refine r_iconst (pc := 28) C dX7_placeOf_28 (v := (-1)) (by decide) ?_
  exact r_retPI hR (pc := 29) dX7_placeOf_29
abbrev rm_X7_countNotIn_l2l1 : Room := { frames := 1, cells := 0, slots := 0, locals := 22 }
theorem kY_X7_countNotIn : kY yX7_countNotIn cX7_countNotIn 4 (some .int) 1 := ⟨kw_1_10, kw_4_210, by decide, by decide, by decide +kernel⟩
def L_X7_countNotIn_l2l1_4 (S : CS) (k5 : Int32 → Option (Int32)) : Nat → Int32 → Int32 → Option (Int32) := lo2 fun rec3 x1 x2 =>
  (if (S.1 22) ≤ x2 then
  k5 x1
 else
  chk x2 60 (
  bp (f_X7_placeOf_l1 S (S.2.1 40 x2.toNatClampNeg)) (fun x7 =>
  (if x7 = (-1) then
  lt (x1 + 1) fun x9 =>
  lt (x2 + 1) fun x10 =>
  rec3 x9 x10
 else
  lt (x2 + 1) fun x8 =>
  rec3 x1 x8))))
set_option maxRecDepth 100000 in
set_option maxHeartbeats 4000000 in
theorem l_X7_countNotIn_l2l1_4 {X : KX} {g : KG} {q : Nat → Nat} {E : va_W} {res : Int32} {S : CS} (C : kC X g cX7_countNotIn "MarkChains$Line" rm_X7_countNotIn_l2l1 4) (hR : ∀ (pc : Nat) (lv : List (Nat × Value)), decode cX7_countNotIn pc = .ok (.ireturn, 1) → jW X g (cx g q E S) 0 0 pc lv [.int res]) (k5 : Int32 → Option (Int32)) (hk6 : ∀ (x11 : Int32), jJ X g res (cx g q E S) 0 0 35 [(2, .int x11)] [] (k5 x11)) : ∀ (n : Nat) (x1 : Int32) (x2 : Int32), jJ X g res (cx g q E S) 0 0 4 [(0, .ref (q 39)), (1, .ref (q 36)), (2, .int x1), (3, .int x2)] [] (L_X7_countNotIn_l2l1_4 S k5 n x1 x2) := by
  refine r_lo2 (fun x1 x2 => cx g q E S) (fun x1 x2 => [(0, .ref (q 39)), (1, .ref (q 36)), (2, .int x1), (3, .int x2)]) (fun rec3 ih4 x1 x2 => ?_)
  refine r_iload_n (pc := 4) C dX7_countNotIn_4 3 rfl ?_
  refine r_aload_n (pc := 5) C dX7_countNotIn_5 0 rfl ?_
  refine xg_l2_size (pc := 6) C kw_2_29 dX7_countNotIn_6 ?_
  refine r_icmp_ge 35 (pc := 9) C dX7_countNotIn_9 (by decide) ?_ ?_
  · refine r_sub (lv' := [(2, .int x1)]) [2] rfl ?_
    exact hk6 x1
  · refine r_aload_n (pc := 12) C dX7_countNotIn_12 1 rfl ?_
    refine r_aload_n (pc := 13) C dX7_countNotIn_13 0 rfl ?_
    refine xg_l2_numbers (pc := 14) C kw_2_26 dX7_countNotIn_14 ?_
    refine r_iload_n (pc := 17) C dX7_countNotIn_17 3 rfl ?_
    refine xl_l2_numbers (pc := 18) C dX7_countNotIn_18 ?_
    refine r_cVpi (As := [.int (S.2.1 40 x2.toNatClampNeg)]) (st := []) (pc := 19) C (fun _ h => c_X7_placeOf_l1 h) kY_X7_placeOf kw_4_212 kw_4_213 kw_4_211 rfl ⟨Nat.le_of_ble_eq_true rfl, Nat.le_of_ble_eq_true rfl⟩ rfl rfl ⟨Nat.zero_le _, Nat.zero_le _⟩ 35 rfl rfl rfl (Nat.le_of_ble_eq_true rfl) dX7_countNotIn_19 (fun x7 => ?_)
    refine r_iconst (pc := 22) C dX7_countNotIn_22 (v := (-1)) (by decide) ?_
    refine r_icmp_ne 29 (pc := 23) C dX7_countNotIn_23 (by decide) ?_ ?_
    · refine r_iinc (pc := 29) C dX7_countNotIn_29 (v := 1) (lv' := fun x8 => [(0, .ref (q 39)), (1, .ref (q 36)), (2, .int x1), (3, .int x8)]) 3 rfl (by decide) (by decide) [1, 2, 3, 0] (fun _ => rfl) (fun x8 => ?_)
      refine r_goto 4 (pc := 32) C dX7_countNotIn_32 (by decide) ?_
      exact ih4 x1 x8
    · refine r_iinc (pc := 26) C dX7_countNotIn_26 (v := 1) (lv' := fun x9 => [(0, .ref (q 39)), (1, .ref (q 36)), (2, .int x9), (3, .int x2)]) 2 rfl (by decide) (by decide) [1, 2, 0, 3] (fun _ => rfl) (fun x9 => ?_)
      refine r_iinc (pc := 29) C dX7_countNotIn_29 (v := 1) (lv' := fun x10 => [(0, .ref (q 39)), (1, .ref (q 36)), (2, .int x9), (3, .int x10)]) 3 rfl (by decide) (by decide) [1, 2, 3, 0] (fun _ => rfl) (fun x10 => ?_)
      refine r_goto 4 (pc := 32) C dX7_countNotIn_32 (by decide) ?_
      exact ih4 x9 x10
def f_X7_countNotIn_l2l1 (S : CS) : Option (Int32) :=
  L_X7_countNotIn_l2l1_4 S (fun x12 =>
  some x12) FU 0 0
set_option maxRecDepth 100000 in
set_option maxHeartbeats 4000000 in
theorem c_X7_countNotIn_l2l1 {g : KG} {q : Nat → Nat} {E : va_W} {S : CS}  {r : Int32} (h : f_X7_countNotIn_l2l1 S = some r) : ∀ l, kM l yX7_countNotIn cX7_countNotIn 4 (some .int) rm_X7_countNotIn_l2l1 g [.ref (q 39), .ref (q 36)] (cx g q E S) (cx g q E S) (some (.int r)) 0 0 := by
  refine k_open_i (own := "MarkChains$Line") (by decide) rfl (Nat.le_of_ble_eq_true rfl) (fun X C hR => ?_)
  refine (?_ : jJ X g (r : Int32) (cx g q E S) 0 0 0 [(0, .ref (q 39)), (1, .ref (q 36))] [] (f_X7_countNotIn_l2l1 S)) h
  unfold f_X7_countNotIn_l2l1
  refine r_iconst (pc := 0) C dX7_countNotIn_0 (v := 0) (by decide) ?_
  refine r_istore_n (pc := 1) C dX7_countNotIn_1 (lv' := [(0, .ref (q 39)), (1, .ref (q 36)), (2, .int 0)]) (by decide) [1, 2, 0] rfl ?_
  refine r_iconst (pc := 2) C dX7_countNotIn_2 (v := 0) (by decide) ?_
  refine r_istore_n (pc := 3) C dX7_countNotIn_3 (lv' := [(0, .ref (q 39)), (1, .ref (q 36)), (2, .int 0), (3, .int 0)]) (by decide) [1, 2, 3, 0] rfl ?_
  refine l_X7_countNotIn_l2l1_4 C hR _ (fun x12 => ?_) FU 0 0
  refine r_iload_n (pc := 35) C dX7_countNotIn_35 0 rfl ?_
  exact r_retPI hR (pc := 36) dX7_countNotIn_36
abbrev rm_X7_lowestNotIn_l2l1 : Room := { frames := 1, cells := 0, slots := 0, locals := 22 }
theorem kY_X7_lowestNotIn : kY yX7_lowestNotIn cX7_lowestNotIn 5 (some .int) 1 := ⟨kw_1_10, kw_4_218, by decide, by decide, by decide +kernel⟩
def L_X7_lowestNotIn_l2l1_4 (S : CS) (k5 : Int32 → Option (Int32)) : Nat → Int32 → Int32 → Option (Int32) := lo2 fun rec3 x1 x2 =>
  (if (S.1 22) ≤ x2 then
  k5 x1
 else
  chk x2 60 (
  lt (S.2.1 40 x2.toNatClampNeg) fun x7 =>
  bp (f_X7_placeOf_l1 S x7) (fun x8 =>
  (if x8 = (-1) then
  jn0 (lt (x2 + 1) fun x10 =>
  rec3 x7 x10) (fun k11 =>
  (if x1 = (-1) then
  k11
 else
  (if x1 ≤ x7 then
  lt (x2 + 1) fun x13 =>
  rec3 x1 x13
 else
  k11)))
 else
  lt (x2 + 1) fun x9 =>
  rec3 x1 x9))))
set_option maxRecDepth 100000 in
set_option maxHeartbeats 4000000 in
theorem l_X7_lowestNotIn_l2l1_4 {X : KX} {g : KG} {q : Nat → Nat} {E : va_W} {res : Int32} {S : CS} (C : kC X g cX7_lowestNotIn "MarkChains$Line" rm_X7_lowestNotIn_l2l1 5) (hR : ∀ (pc : Nat) (lv : List (Nat × Value)), decode cX7_lowestNotIn pc = .ok (.ireturn, 1) → jW X g (cx g q E S) 0 0 pc lv [.int res]) (k5 : Int32 → Option (Int32)) (hk6 : ∀ (x14 : Int32), jJ X g res (cx g q E S) 0 0 50 [(2, .int x14)] [] (k5 x14)) : ∀ (n : Nat) (x1 : Int32) (x2 : Int32), jJ X g res (cx g q E S) 0 0 4 [(0, .ref (q 39)), (1, .ref (q 36)), (2, .int x1), (3, .int x2)] [] (L_X7_lowestNotIn_l2l1_4 S k5 n x1 x2) := by
  refine r_lo2 (fun x1 x2 => cx g q E S) (fun x1 x2 => [(0, .ref (q 39)), (1, .ref (q 36)), (2, .int x1), (3, .int x2)]) (fun rec3 ih4 x1 x2 => ?_)
  refine r_iload_n (pc := 4) C dX7_lowestNotIn_4 3 rfl ?_
  refine r_aload_n (pc := 5) C dX7_lowestNotIn_5 0 rfl ?_
  refine xg_l2_size (pc := 6) C kw_2_29 dX7_lowestNotIn_6 ?_
  refine r_icmp_ge 50 (pc := 9) C dX7_lowestNotIn_9 (by decide) ?_ ?_
  · refine r_sub (lv' := [(2, .int x1)]) [2] rfl ?_
    exact hk6 x1
  · refine r_aload_n (pc := 12) C dX7_lowestNotIn_12 0 rfl ?_
    refine xg_l2_numbers (pc := 13) C kw_2_26 dX7_lowestNotIn_13 ?_
    refine r_iload_n (pc := 16) C dX7_lowestNotIn_16 3 rfl ?_
    refine xl_l2_numbers (pc := 17) C dX7_lowestNotIn_17 ?_
    refine r_istoreV (pc := 18) C dX7_lowestNotIn_18 (lv' := fun x7 => [(0, .ref (q 39)), (1, .ref (q 36)), (2, .int x1), (3, .int x2), (4, .int x7)]) (by decide) [1, 2, 3, 4, 0] (fun _ => rfl) (fun x7 => ?_)
    refine r_aload_n (pc := 20) C dX7_lowestNotIn_20 1 rfl ?_
    refine r_iload (pc := 21) C dX7_lowestNotIn_21 4 rfl ?_
    refine r_cVpi (As := [.int x7]) (st := []) (pc := 23) C (fun _ h => c_X7_placeOf_l1 h) kY_X7_placeOf kw_4_212 kw_4_213 kw_4_211 rfl ⟨Nat.le_of_ble_eq_true rfl, Nat.le_of_ble_eq_true rfl⟩ rfl rfl ⟨Nat.zero_le _, Nat.zero_le _⟩ 35 rfl rfl rfl (Nat.le_of_ble_eq_true rfl) dX7_lowestNotIn_23 (fun x8 => ?_)
    refine r_iconst (pc := 26) C dX7_lowestNotIn_26 (v := (-1)) (by decide) ?_
    refine r_icmp_ne 44 (pc := 27) C dX7_lowestNotIn_27 (by decide) ?_ ?_
    · refine r_iinc (pc := 44) C dX7_lowestNotIn_44 (v := 1) (lv' := fun x9 => [(0, .ref (q 39)), (1, .ref (q 36)), (2, .int x1), (3, .int x9), (4, .int x7)]) 3 rfl (by decide) (by decide) [1, 2, 3, 0, 4] (fun _ => rfl) (fun x9 => ?_)
      refine r_goto 4 (pc := 47) C dX7_lowestNotIn_47 (by decide) ?_
      refine r_sub (lv' := [(0, .ref (q 39)), (1, .ref (q 36)), (2, .int x1), (3, .int x9)]) [0, 1, 2, 3] rfl ?_
      exact ih4 x1 x9
    · refine r_iload_n (pc := 30) C dX7_lowestNotIn_30 2 rfl ?_
      refine r_iconst (pc := 31) C dX7_lowestNotIn_31 (v := (-1)) (by decide) ?_
      refine r_jn0 41 (cx g q E S) ([(0, .ref (q 39)), (1, .ref (q 36)), (3, .int x2), (4, .int x7)]) ([]) ?_ (fun k11 hk12 => ?_)
      · refine r_iload (pc := 41) C dX7_lowestNotIn_41 3 rfl ?_
        refine r_istore_n (pc := 43) C dX7_lowestNotIn_43 (lv' := [(0, .ref (q 39)), (1, .ref (q 36)), (2, .int x7), (3, .int x2), (4, .int x7)]) (by decide) [1, 2, 0, 3, 4] rfl ?_
        refine r_iinc (pc := 44) C dX7_lowestNotIn_44 (v := 1) (lv' := fun x10 => [(0, .ref (q 39)), (1, .ref (q 36)), (2, .int x7), (3, .int x10), (4, .int x7)]) 3 rfl (by decide) (by decide) [1, 2, 3, 0, 4] (fun _ => rfl) (fun x10 => ?_)
        refine r_goto 4 (pc := 47) C dX7_lowestNotIn_47 (by decide) ?_
        refine r_sub (lv' := [(0, .ref (q 39)), (1, .ref (q 36)), (2, .int x7), (3, .int x10)]) [0, 1, 2, 3] rfl ?_
        exact ih4 x7 x10
      · refine r_icmp_eq 41 (pc := 32) C dX7_lowestNotIn_32 (by decide) ?_ ?_
        · refine r_sub (lv' := [(0, .ref (q 39)), (1, .ref (q 36)), (3, .int x2), (4, .int x7)]) [0, 1, 3, 4] rfl ?_
          exact hk12
        · refine r_iload (pc := 35) C dX7_lowestNotIn_35 4 rfl ?_
          refine r_iload_n (pc := 37) C dX7_lowestNotIn_37 2 rfl ?_
          refine r_icmp_ge 44 (pc := 38) C dX7_lowestNotIn_38 (by decide) ?_ ?_
          · refine r_iinc (pc := 44) C dX7_lowestNotIn_44 (v := 1) (lv' := fun x13 => [(0, .ref (q 39)), (1, .ref (q 36)), (2, .int x1), (3, .int x13), (4, .int x7)]) 3 rfl (by decide) (by decide) [1, 2, 3, 0, 4] (fun _ => rfl) (fun x13 => ?_)
            refine r_goto 4 (pc := 47) C dX7_lowestNotIn_47 (by decide) ?_
            refine r_sub (lv' := [(0, .ref (q 39)), (1, .ref (q 36)), (2, .int x1), (3, .int x13)]) [0, 1, 2, 3] rfl ?_
            exact ih4 x1 x13
          · refine r_sub (lv' := [(0, .ref (q 39)), (1, .ref (q 36)), (3, .int x2), (4, .int x7)]) [0, 1, 3, 4] rfl ?_
            exact hk12
def f_X7_lowestNotIn_l2l1 (S : CS) : Option (Int32) :=
  L_X7_lowestNotIn_l2l1_4 S (fun x15 =>
  some x15) FU (-1) 0
set_option maxRecDepth 100000 in
set_option maxHeartbeats 4000000 in
theorem c_X7_lowestNotIn_l2l1 {g : KG} {q : Nat → Nat} {E : va_W} {S : CS}  {r : Int32} (h : f_X7_lowestNotIn_l2l1 S = some r) : ∀ l, kM l yX7_lowestNotIn cX7_lowestNotIn 5 (some .int) rm_X7_lowestNotIn_l2l1 g [.ref (q 39), .ref (q 36)] (cx g q E S) (cx g q E S) (some (.int r)) 0 0 := by
  refine k_open_i (own := "MarkChains$Line") (by decide) rfl (Nat.le_of_ble_eq_true rfl) (fun X C hR => ?_)
  refine (?_ : jJ X g (r : Int32) (cx g q E S) 0 0 0 [(0, .ref (q 39)), (1, .ref (q 36))] [] (f_X7_lowestNotIn_l2l1 S)) h
  unfold f_X7_lowestNotIn_l2l1
  refine r_iconst (pc := 0) C dX7_lowestNotIn_0 (v := (-1)) (by decide) ?_
  refine r_istore_n (pc := 1) C dX7_lowestNotIn_1 (lv' := [(0, .ref (q 39)), (1, .ref (q 36)), (2, .int (-1))]) (by decide) [1, 2, 0] rfl ?_
  refine r_iconst (pc := 2) C dX7_lowestNotIn_2 (v := 0) (by decide) ?_
  refine r_istore_n (pc := 3) C dX7_lowestNotIn_3 (lv' := [(0, .ref (q 39)), (1, .ref (q 36)), (2, .int (-1)), (3, .int 0)]) (by decide) [1, 2, 3, 0] rfl ?_
  refine l_X7_lowestNotIn_l2l1_4 C hR _ (fun x15 => ?_) FU (-1) 0
  refine r_iload_n (pc := 50) C dX7_lowestNotIn_50 0 rfl ?_
  exact r_retPI hR (pc := 51) dX7_lowestNotIn_51
abbrev rm_X7_placeOf_l2 : Room := { frames := 0, cells := 0, slots := 0, locals := 0 }
def L_X7_placeOf_l2_2 (S : CS) (c1 : Int32) (k4 : Option (Int32)) : Nat → Int32 → Option (Int32) := lo1 fun rec2 x1 =>
  (if (S.1 22) ≤ x1 then
  k4
 else
  chk x1 60 (
  (if (S.2.1 40 x1.toNatClampNeg) = c1 then
  some x1
 else
  lt (x1 + 1) fun x6 =>
  rec2 x6)))
set_option maxRecDepth 100000 in
set_option maxHeartbeats 4000000 in
theorem l_X7_placeOf_l2_2 {X : KX} {g : KG} {q : Nat → Nat} {E : va_W} {res : Int32} {S : CS} (C : kC X g cX7_placeOf "MarkChains$Line" rm_X7_placeOf_l2 3) (hR : ∀ (pc : Nat) (lv : List (Nat × Value)), decode cX7_placeOf pc = .ok (.ireturn, 1) → jW X g (cx g q E S) 0 0 pc lv [.int res]) (c1 : Int32) (k4 : Option (Int32)) (hk5 : jJ X g res (cx g q E S) 0 0 28 [] [] k4) : ∀ (n : Nat) (x1 : Int32), jJ X g res (cx g q E S) 0 0 2 [(0, .ref (q 39)), (1, .int c1), (2, .int x1)] [] (L_X7_placeOf_l2_2 S c1 k4 n x1) := by
  refine r_lo1 (fun x1 => cx g q E S) (fun x1 => [(0, .ref (q 39)), (1, .int c1), (2, .int x1)]) (fun rec2 ih3 x1 => ?_)
  refine r_iload_n (pc := 2) C dX7_placeOf_2 2 rfl ?_
  refine r_aload_n (pc := 3) C dX7_placeOf_3 0 rfl ?_
  refine xg_l2_size (pc := 4) C kw_2_29 dX7_placeOf_4 ?_
  refine r_icmp_ge 28 (pc := 7) C dX7_placeOf_7 (by decide) ?_ ?_
  · refine r_sub (lv' := []) [] rfl ?_
    exact hk5
  · refine r_aload_n (pc := 10) C dX7_placeOf_10 0 rfl ?_
    refine xg_l2_numbers (pc := 11) C kw_2_26 dX7_placeOf_11 ?_
    refine r_iload_n (pc := 14) C dX7_placeOf_14 2 rfl ?_
    refine xl_l2_numbers (pc := 15) C dX7_placeOf_15 ?_
    refine r_iload_n (pc := 16) C dX7_placeOf_16 1 rfl ?_
    refine r_icmp_ne 22 (pc := 17) C dX7_placeOf_17 (by decide) ?_ ?_
    · refine r_iinc (pc := 22) C dX7_placeOf_22 (v := 1) (lv' := fun x6 => [(0, .ref (q 39)), (1, .int c1), (2, .int x6)]) 2 rfl (by decide) (by decide) [1, 2, 0] (fun _ => rfl) (fun x6 => ?_)
      refine r_goto 2 (pc := 25) C dX7_placeOf_25 (by decide) ?_
      exact ih3 x6
    · refine r_iload_n (pc := 20) C dX7_placeOf_20 2 rfl ?_
      exact r_retPI hR (pc := 21) dX7_placeOf_21
def f_X7_placeOf_l2 (S : CS) (a1 : Int32) : Option (Int32) :=
  L_X7_placeOf_l2_2 S a1 (some (-1)) FU 0
set_option maxRecDepth 100000 in
set_option maxHeartbeats 4000000 in
theorem c_X7_placeOf_l2 {g : KG} {q : Nat → Nat} {E : va_W} {S : CS} {a1 : Int32} {r : Int32} (h : f_X7_placeOf_l2 S a1 = some r) : ∀ l, kM l yX7_placeOf cX7_placeOf 3 (some .int) rm_X7_placeOf_l2 g [.ref (q 39), .int a1] (cx g q E S) (cx g q E S) (some (.int r)) 0 0 := by
  refine k_open_i (own := "MarkChains$Line") (by decide) rfl (Nat.le_of_ble_eq_true rfl) (fun X C hR => ?_)
  refine (?_ : jJ X g (r : Int32) (cx g q E S) 0 0 0 [(0, .ref (q 39)), (1, .int a1)] [] (f_X7_placeOf_l2 S a1)) h
  unfold f_X7_placeOf_l2
  refine r_iconst (pc := 0) C dX7_placeOf_0 (v := 0) (by decide) ?_
  refine r_istore_n (pc := 1) C dX7_placeOf_1 (lv' := [(0, .ref (q 39)), (1, .int a1), (2, .int 0)]) (by decide) [1, 2, 0] rfl ?_
  refine l_X7_placeOf_l2_2 C hR a1 _ (?_) FU 0
  refine r_iconst (pc := 28) C dX7_placeOf_28 (v := (-1)) (by decide) ?_
  exact r_retPI hR (pc := 29) dX7_placeOf_29
