abbrev rm_X12_bestAt : Room := { frames := 3, cells := 0, slots := 0, locals := 64 }
theorem kY_X12_bestAt : kY yX12_bestAt cX12_bestAt 5 (some .int) 2 := ⟨kw_1_13, kw_7_239, by decide, by decide, by decide +kernel⟩
def L_X12_bestAt_5 (S : MS) (c1 : Int32) (c2 : Int32) (k5 : Int32 → Option (Int32)) : Nat → Int32 → Int32 → Option (Int32) := lo2 fun rec3 x1 x2 =>
  chk 3 1177 (
  (if (S.2 0 (3 : Int32).toNatClampNeg) ≤ x2 then
  k5 x1
 else
  bp (f_X12_isMeeting S x2 c1) (fun x7 =>
  (if x7 = true then
  bp (f_X12_of S x2 1) (fun x9 =>
  (if x9 = c2 then
  bp (f_X12_of S x2 10) (fun x11 =>
  (if x11 = (-1) then
  jn0 (bp (f_X12_of S x2 5) (fun x12 =>
  lt (x2 + 1) fun x13 =>
  rec3 x12 x13)) (fun k14 =>
  (if x1 = 0 then
  k14
 else
  bp (f_X12_of S c1 0) (fun x16 =>
  bp (f_X12_of S x2 5) (fun x17 =>
  bp (f_X12_isBetter S x16 x17 x1) (fun x18 =>
  (if x18 = true then
  k14
 else
  lt (x2 + 1) fun x19 =>
  rec3 x1 x19))))))
 else
  lt (x2 + 1) fun x20 =>
  rec3 x1 x20))
 else
  lt (x2 + 1) fun x10 =>
  rec3 x1 x10))
 else
  lt (x2 + 1) fun x8 =>
  rec3 x1 x8))))
set_option maxRecDepth 100000 in
set_option maxHeartbeats 4000000 in
theorem l_X12_bestAt_5 {X : KX} {g : KG} {q : Nat → Nat} {res : Int32} {S : MS} (C : kC X g cX12_bestAt "MarkChainsModel" rm_X12_bestAt 5) (hR : ∀ (pc : Nat) (lv : List (Nat × Value)), decode cX12_bestAt pc = .ok (.ireturn, 1) → jW X g (mw g q S) 0 0 pc lv [.int res]) (c1 : Int32) (c2 : Int32) (k5 : Int32 → Option (Int32)) (hk6 : ∀ (x21 : Int32), jJ X g res (mw g q S) 0 0 91 [(3, .int x21)] [] (k5 x21)) : ∀ (n : Nat) (x1 : Int32) (x2 : Int32), jJ X g res (mw g q S) 0 0 5 [(0, .ref (q 0)), (1, .int c1), (2, .int c2), (3, .int x1), (4, .int x2)] [] (L_X12_bestAt_5 S c1 c2 k5 n x1 x2) := by
  refine r_lo2 (fun x1 x2 => mw g q S) (fun x1 x2 => [(0, .ref (q 0)), (1, .int c1), (2, .int c2), (3, .int x1), (4, .int x2)]) (fun rec3 ih4 x1 x2 => ?_)
  refine r_iload (pc := 5) C dX12_bestAt_5 4 rfl ?_
  refine r_aload_n (pc := 7) C dX12_bestAt_7 0 rfl ?_
  refine mg_all (pc := 8) C dX12_bestAt_8 ?_
  refine r_iconst (pc := 11) C dX12_bestAt_11 (v := 3) (by decide) ?_
  refine ml_all (pc := 12) C dX12_bestAt_12 ?_
  refine r_icmp_ge 91 (pc := 13) C dX12_bestAt_13 (by decide) ?_ ?_
  · refine r_sub (lv' := [(3, .int x1)]) [3] rfl ?_
    exact hk6 x1
  · refine r_aload_n (pc := 16) C dX12_bestAt_16 0 rfl ?_
    refine r_iload (pc := 17) C dX12_bestAt_17 4 rfl ?_
    refine r_iload_n (pc := 19) C dX12_bestAt_19 1 rfl ?_
    refine r_cVpz (As := [.int x2, .int c1]) (st := []) (pc := 20) C (fun _ h => c_X12_isMeeting h) kY_X12_isMeeting kw_7_226 kw_0_88 kw_7_224 rfl ⟨Nat.le_of_ble_eq_true rfl, Nat.le_of_ble_eq_true rfl⟩ rfl rfl ⟨Nat.zero_le _, Nat.zero_le _⟩ 0 rfl rfl rfl (Nat.le_of_ble_eq_true rfl) dX12_bestAt_20 (fun x7 => ?_)
    refine r_ifb_eq 85 (pc := 23) C dX12_bestAt_23 (by decide) ?_ ?_
    · refine r_iinc (pc := 85) C dX12_bestAt_85 (v := 1) (lv' := fun x8 => [(0, .ref (q 0)), (1, .int c1), (2, .int c2), (3, .int x1), (4, .int x8)]) 4 rfl (by decide) (by decide) [1, 2, 3, 4, 0] (fun _ => rfl) (fun x8 => ?_)
      refine r_goto 5 (pc := 88) C dX12_bestAt_88 (by decide) ?_
      exact ih4 x1 x8
    · refine r_aload_n (pc := 26) C dX12_bestAt_26 0 rfl ?_
      refine r_iload (pc := 27) C dX12_bestAt_27 4 rfl ?_
      refine r_iconst (pc := 29) C dX12_bestAt_29 (v := 1) (by decide) ?_
      refine r_cVpi (As := [.int x2, .int 1]) (st := []) (pc := 30) C (fun _ h => c_X12_of h) kY_X12_of kw_7_27 kw_0_64 kw_7_25 rfl ⟨Nat.le_of_ble_eq_true rfl, Nat.le_of_ble_eq_true rfl⟩ rfl rfl ⟨Nat.zero_le _, Nat.zero_le _⟩ 0 rfl rfl rfl (Nat.le_of_ble_eq_true rfl) dX12_bestAt_30 (fun x9 => ?_)
      refine r_iload_n (pc := 33) C dX12_bestAt_33 2 rfl ?_
      refine r_icmp_ne 85 (pc := 34) C dX12_bestAt_34 (by decide) ?_ ?_
      · refine r_iinc (pc := 85) C dX12_bestAt_85 (v := 1) (lv' := fun x10 => [(0, .ref (q 0)), (1, .int c1), (2, .int c2), (3, .int x1), (4, .int x10)]) 4 rfl (by decide) (by decide) [1, 2, 3, 4, 0] (fun _ => rfl) (fun x10 => ?_)
        refine r_goto 5 (pc := 88) C dX12_bestAt_88 (by decide) ?_
        exact ih4 x1 x10
      · refine r_aload_n (pc := 37) C dX12_bestAt_37 0 rfl ?_
        refine r_iload (pc := 38) C dX12_bestAt_38 4 rfl ?_
        refine r_bipush (pc := 40) C dX12_bestAt_40 (v := 10) (by decide) ?_
        refine r_cVpi (As := [.int x2, .int 10]) (st := []) (pc := 42) C (fun _ h => c_X12_of h) kY_X12_of kw_7_27 kw_0_64 kw_7_25 rfl ⟨Nat.le_of_ble_eq_true rfl, Nat.le_of_ble_eq_true rfl⟩ rfl rfl ⟨Nat.zero_le _, Nat.zero_le _⟩ 0 rfl rfl rfl (Nat.le_of_ble_eq_true rfl) dX12_bestAt_42 (fun x11 => ?_)
        refine r_iconst (pc := 45) C dX12_bestAt_45 (v := (-1)) (by decide) ?_
        refine r_icmp_eq 52 (pc := 46) C dX12_bestAt_46 (by decide) ?_ ?_
        · refine r_iload_n (pc := 52) C dX12_bestAt_52 3 rfl ?_
          refine r_jn0 77 (mw g q S) ([(0, .ref (q 0)), (1, .int c1), (2, .int c2), (4, .int x2)]) ([]) ?_ (fun k14 hk15 => ?_)
          · refine r_aload_n (pc := 77) C dX12_bestAt_77 0 rfl ?_
            refine r_iload (pc := 78) C dX12_bestAt_78 3 rfl ?_
            refine r_iconst (pc := 80) C dX12_bestAt_80 (v := 5) (by decide) ?_
            refine r_cVpi (As := [.int x2, .int 5]) (st := []) (pc := 81) C (fun _ h => c_X12_of h) kY_X12_of kw_7_27 kw_0_64 kw_7_25 rfl ⟨Nat.le_of_ble_eq_true rfl, Nat.le_of_ble_eq_true rfl⟩ rfl rfl ⟨Nat.zero_le _, Nat.zero_le _⟩ 0 rfl rfl rfl (Nat.le_of_ble_eq_true rfl) dX12_bestAt_81 (fun x12 => ?_)
            refine r_istore_n (pc := 84) C dX12_bestAt_84 (lv' := [(0, .ref (q 0)), (1, .int c1), (2, .int c2), (3, .int x12), (4, .int x2)]) (by decide) [1, 2, 3, 0, 4] rfl ?_
            refine r_iinc (pc := 85) C dX12_bestAt_85 (v := 1) (lv' := fun x13 => [(0, .ref (q 0)), (1, .int c1), (2, .int c2), (3, .int x12), (4, .int x13)]) 4 rfl (by decide) (by decide) [1, 2, 3, 4, 0] (fun _ => rfl) (fun x13 => ?_)
            refine r_goto 5 (pc := 88) C dX12_bestAt_88 (by decide) ?_
            exact ih4 x12 x13
          · refine r_if_eq 77 (pc := 53) C dX12_bestAt_53 (by decide) ?_ ?_
            · refine r_sub (lv' := [(0, .ref (q 0)), (1, .int c1), (2, .int c2), (4, .int x2)]) [0, 1, 2, 4] rfl ?_
              exact hk15
            · refine r_aload_n (pc := 56) C dX12_bestAt_56 0 rfl ?_
              refine r_aload_n (pc := 57) C dX12_bestAt_57 0 rfl ?_
              refine r_iload_n (pc := 58) C dX12_bestAt_58 1 rfl ?_
              refine r_iconst (pc := 59) C dX12_bestAt_59 (v := 0) (by decide) ?_
              refine r_cVpi (As := [.int c1, .int 0]) (st := [.ref (q 0)]) (pc := 60) C (fun _ h => c_X12_of h) kY_X12_of kw_7_27 kw_0_64 kw_7_25 rfl ⟨Nat.le_of_ble_eq_true rfl, Nat.le_of_ble_eq_true rfl⟩ rfl rfl ⟨Nat.zero_le _, Nat.zero_le _⟩ 0 rfl rfl rfl (Nat.le_of_ble_eq_true rfl) dX12_bestAt_60 (fun x16 => ?_)
              refine r_aload_n (pc := 63) C dX12_bestAt_63 0 rfl ?_
              refine r_iload (pc := 64) C dX12_bestAt_64 4 rfl ?_
              refine r_iconst (pc := 66) C dX12_bestAt_66 (v := 5) (by decide) ?_
              refine r_cVpi (As := [.int x2, .int 5]) (st := [.int x16, .ref (q 0)]) (pc := 67) C (fun _ h => c_X12_of h) kY_X12_of kw_7_27 kw_0_64 kw_7_25 rfl ⟨Nat.le_of_ble_eq_true rfl, Nat.le_of_ble_eq_true rfl⟩ rfl rfl ⟨Nat.zero_le _, Nat.zero_le _⟩ 0 rfl rfl rfl (Nat.le_of_ble_eq_true rfl) dX12_bestAt_67 (fun x17 => ?_)
              refine r_iload_n (pc := 70) C dX12_bestAt_70 3 rfl ?_
              refine r_cVpz (As := [.int x16, .int x17, .int x1]) (st := []) (pc := 71) C (fun _ h => c_X12_isBetter h) kY_X12_isBetter kw_7_118 kw_0_75 kw_7_116 rfl ⟨Nat.le_of_ble_eq_true rfl, Nat.le_of_ble_eq_true rfl⟩ rfl rfl ⟨Nat.zero_le _, Nat.zero_le _⟩ 0 rfl rfl rfl (Nat.le_of_ble_eq_true rfl) dX12_bestAt_71 (fun x18 => ?_)
              refine r_ifb_eq 85 (pc := 74) C dX12_bestAt_74 (by decide) ?_ ?_
              · refine r_iinc (pc := 85) C dX12_bestAt_85 (v := 1) (lv' := fun x19 => [(0, .ref (q 0)), (1, .int c1), (2, .int c2), (3, .int x1), (4, .int x19)]) 4 rfl (by decide) (by decide) [1, 2, 3, 4, 0] (fun _ => rfl) (fun x19 => ?_)
                refine r_goto 5 (pc := 88) C dX12_bestAt_88 (by decide) ?_
                exact ih4 x1 x19
              · refine r_sub (lv' := [(0, .ref (q 0)), (1, .int c1), (2, .int c2), (4, .int x2)]) [0, 1, 2, 4] rfl ?_
                exact hk15
        · refine r_goto 85 (pc := 49) C dX12_bestAt_49 (by decide) ?_
          refine r_iinc (pc := 85) C dX12_bestAt_85 (v := 1) (lv' := fun x20 => [(0, .ref (q 0)), (1, .int c1), (2, .int c2), (3, .int x1), (4, .int x20)]) 4 rfl (by decide) (by decide) [1, 2, 3, 4, 0] (fun _ => rfl) (fun x20 => ?_)
          refine r_goto 5 (pc := 88) C dX12_bestAt_88 (by decide) ?_
          exact ih4 x1 x20
def f_X12_bestAt (S : MS) (a1 : Int32) (a2 : Int32) : Option (Int32) :=
  L_X12_bestAt_5 S a1 a2 (fun x22 =>
  some x22) FU 0 0
set_option maxRecDepth 100000 in
set_option maxHeartbeats 4000000 in
theorem c_X12_bestAt {g : KG} {q : Nat → Nat} {S : MS} {a1 : Int32} {a2 : Int32} {r : Int32} (h : f_X12_bestAt S a1 a2 = some r) : ∀ l, kM l yX12_bestAt cX12_bestAt 5 (some .int) rm_X12_bestAt g [.ref (q 0), .int a1, .int a2] (mw g q S) (mw g q S) (some (.int r)) 0 0 := by
  refine k_open_i (own := "MarkChainsModel") (by decide) rfl (Nat.le_of_ble_eq_true rfl) (fun X C hR => ?_)
  refine (?_ : jJ X g (r : Int32) (mw g q S) 0 0 0 [(0, .ref (q 0)), (1, .int a1), (2, .int a2)] [] (f_X12_bestAt S a1 a2)) h
  unfold f_X12_bestAt
  refine r_iconst (pc := 0) C dX12_bestAt_0 (v := 0) (by decide) ?_
  refine r_istore_n (pc := 1) C dX12_bestAt_1 (lv' := [(0, .ref (q 0)), (1, .int a1), (2, .int a2), (3, .int 0)]) (by decide) [1, 2, 3, 0] rfl ?_
  refine r_iconst (pc := 2) C dX12_bestAt_2 (v := 0) (by decide) ?_
  refine r_istore (pc := 3) C dX12_bestAt_3 (lv' := [(0, .ref (q 0)), (1, .int a1), (2, .int a2), (3, .int 0), (4, .int 0)]) (by decide) [1, 2, 3, 4, 0] rfl ?_
  refine l_X12_bestAt_5 C hR a1 a2 _ (fun x22 => ?_) FU 0 0
  refine r_iload_n (pc := 91) C dX12_bestAt_91 0 rfl ?_
  exact r_retPI hR (pc := 92) dX12_bestAt_92
abbrev rm_X12_isFirstOfMeeting : Room := { frames := 3, cells := 0, slots := 0, locals := 64 }
theorem kY_X12_isFirstOfMeeting : kY yX12_isFirstOfMeeting cX12_isFirstOfMeeting 3 (some .boolean) 1 := ⟨kw_1_13, kw_7_235, by decide, by decide, by decide +kernel⟩
def L_X12_isFirstOfMeeting_2 (S : MS) (c1 : Int32) (k4 : Option (Bool)) : Nat → Int32 → Option (Bool) := lo1 fun rec2 x1 =>
  (if c1 ≤ x1 then
  k4
 else
  bp (f_X12_isMeeting S x1 c1) (fun x6 =>
  (if x6 = true then
  some false
 else
  lt (x1 + 1) fun x7 =>
  rec2 x7)))
set_option maxRecDepth 100000 in
set_option maxHeartbeats 4000000 in
theorem l_X12_isFirstOfMeeting_2 {X : KX} {g : KG} {q : Nat → Nat} {res : Bool} {S : MS} (C : kC X g cX12_isFirstOfMeeting "MarkChainsModel" rm_X12_isFirstOfMeeting 3) (hR : ∀ (pc : Nat) (lv : List (Nat × Value)), decode cX12_isFirstOfMeeting pc = .ok (.ireturn, 1) → jW X g (mw g q S) 0 0 pc lv [.int (b2 res)]) (c1 : Int32) (k4 : Option (Bool)) (hk5 : jJ X g res (mw g q S) 0 0 24 [] [] k4) : ∀ (n : Nat) (x1 : Int32), jJ X g res (mw g q S) 0 0 2 [(0, .ref (q 0)), (1, .int c1), (2, .int x1)] [] (L_X12_isFirstOfMeeting_2 S c1 k4 n x1) := by
  refine r_lo1 (fun x1 => mw g q S) (fun x1 => [(0, .ref (q 0)), (1, .int c1), (2, .int x1)]) (fun rec2 ih3 x1 => ?_)
  refine r_iload_n (pc := 2) C dX12_isFirstOfMeeting_2 2 rfl ?_
  refine r_iload_n (pc := 3) C dX12_isFirstOfMeeting_3 1 rfl ?_
  refine r_icmp_ge 24 (pc := 4) C dX12_isFirstOfMeeting_4 (by decide) ?_ ?_
  · refine r_sub (lv' := []) [] rfl ?_
    exact hk5
  · refine r_aload_n (pc := 7) C dX12_isFirstOfMeeting_7 0 rfl ?_
    refine r_iload_n (pc := 8) C dX12_isFirstOfMeeting_8 2 rfl ?_
    refine r_iload_n (pc := 9) C dX12_isFirstOfMeeting_9 1 rfl ?_
    refine r_cVpz (As := [.int x1, .int c1]) (st := []) (pc := 10) C (fun _ h => c_X12_isMeeting h) kY_X12_isMeeting kw_7_226 kw_0_88 kw_7_224 rfl ⟨Nat.le_of_ble_eq_true rfl, Nat.le_of_ble_eq_true rfl⟩ rfl rfl ⟨Nat.zero_le _, Nat.zero_le _⟩ 0 rfl rfl rfl (Nat.le_of_ble_eq_true rfl) dX12_isFirstOfMeeting_10 (fun x6 => ?_)
    refine r_ifb_eq 18 (pc := 13) C dX12_isFirstOfMeeting_13 (by decide) ?_ ?_
    · refine r_iinc (pc := 18) C dX12_isFirstOfMeeting_18 (v := 1) (lv' := fun x7 => [(0, .ref (q 0)), (1, .int c1), (2, .int x7)]) 2 rfl (by decide) (by decide) [1, 2, 0] (fun _ => rfl) (fun x7 => ?_)
      refine r_goto 2 (pc := 21) C dX12_isFirstOfMeeting_21 (by decide) ?_
      exact ih3 x7
    · refine r_iconst (pc := 16) C dX12_isFirstOfMeeting_16 (v := 0) (by decide) ?_
      exact r_retPZ hR rfl (pc := 17) dX12_isFirstOfMeeting_17
def f_X12_isFirstOfMeeting (S : MS) (a1 : Int32) : Option (Bool) :=
  L_X12_isFirstOfMeeting_2 S a1 (some true) FU 0
set_option maxRecDepth 100000 in
set_option maxHeartbeats 4000000 in
theorem c_X12_isFirstOfMeeting {g : KG} {q : Nat → Nat} {S : MS} {a1 : Int32} {r : Bool} (h : f_X12_isFirstOfMeeting S a1 = some r) : ∀ l, kM l yX12_isFirstOfMeeting cX12_isFirstOfMeeting 3 (some .boolean) rm_X12_isFirstOfMeeting g [.ref (q 0), .int a1] (mw g q S) (mw g q S) (some (.int (b2 r))) 0 0 := by
  refine k_open_z (own := "MarkChainsModel") (by decide) rfl (Nat.le_of_ble_eq_true rfl) (fun X C hR => ?_)
  refine (?_ : jJ X g (r : Bool) (mw g q S) 0 0 0 [(0, .ref (q 0)), (1, .int a1)] [] (f_X12_isFirstOfMeeting S a1)) h
  unfold f_X12_isFirstOfMeeting
  refine r_iconst (pc := 0) C dX12_isFirstOfMeeting_0 (v := 0) (by decide) ?_
  refine r_istore_n (pc := 1) C dX12_isFirstOfMeeting_1 (lv' := [(0, .ref (q 0)), (1, .int a1), (2, .int 0)]) (by decide) [1, 2, 0] rfl ?_
  refine l_X12_isFirstOfMeeting_2 C hR a1 _ (?_) FU 0
  refine r_iconst (pc := 24) C dX12_isFirstOfMeeting_24 (v := 1) (by decide) ?_
  exact r_retPZ hR rfl (pc := 25) dX12_isFirstOfMeeting_25
abbrev rm_X12_duel : Room := { frames := 4, cells := 0, slots := 0, locals := 88 }
theorem kY_X12_duel : kY yX12_duel cX12_duel 7 (some .int) 2 := ⟨kw_1_13, kw_7_231, by decide, by decide, by decide +kernel⟩
def L_X12_duel_29 (S : MS) (c1 : Int32) (c2 : Int32) (k7 : Int32 → Option (Int32)) : Nat → Int32 → Int32 → Option (Int32) := lo2 fun rec5 x3 x4 =>
  chk 3 1177 (
  (if (S.2 0 (3 : Int32).toNatClampNeg) ≤ x4 then
  k7 x3
 else
  bp (f_X12_isFirstOfMeeting S x4) (fun x9 =>
  (if x9 = true then
  bp (f_X12_bestAt S x4 c1) (fun x10 =>
  bp (f_X12_bestAt S x4 c2) (fun x11 =>
  jn1 (fun (x12 : Int32) =>
  lt (x3 + x12) fun x13 =>
  lt (x4 + 1) fun x14 =>
  rec5 x13 x14) (fun k15 =>
  jn0 (k15 0) (fun k17 =>
  (if x10 ≤ 0 then
  k17
 else
  (if x11 ≤ 0 then
  k17
 else
  bp (f_X12_of S x4 0) (fun x19 =>
  bp (f_X12_isBetter S x19 x10 x11) (fun x20 =>
  (if x20 = true then
  k15 1
 else
  k17)))))))))
 else
  lt (x4 + 1) fun x21 =>
  rec5 x3 x21))))
set_option maxRecDepth 100000 in
set_option maxHeartbeats 4000000 in
theorem l_X12_duel_29 {X : KX} {g : KG} {q : Nat → Nat} {res : Int32} {S : MS} (C : kC X g cX12_duel "MarkChainsModel" rm_X12_duel 7) (hR : ∀ (pc : Nat) (lv : List (Nat × Value)), decode cX12_duel pc = .ok (.ireturn, 1) → jW X g (mw g q S) 0 0 pc lv [.int res]) (c1 : Int32) (c2 : Int32) (k7 : Int32 → Option (Int32)) (hk8 : ∀ (x22 : Int32), jJ X g res (mw g q S) 0 0 112 [(3, .int x22)] [] (k7 x22)) : ∀ (n : Nat) (x3 : Int32) (x4 : Int32), jJ X g res (mw g q S) 0 0 29 [(0, .ref (q 0)), (1, .int c1), (2, .int c2), (3, .int x3), (4, .int x4)] [] (L_X12_duel_29 S c1 c2 k7 n x3 x4) := by
  refine r_lo2 (fun x3 x4 => mw g q S) (fun x3 x4 => [(0, .ref (q 0)), (1, .int c1), (2, .int c2), (3, .int x3), (4, .int x4)]) (fun rec5 ih6 x3 x4 => ?_)
  refine r_iload (pc := 29) C dX12_duel_29 4 rfl ?_
  refine r_aload_n (pc := 31) C dX12_duel_31 0 rfl ?_
  refine mg_all (pc := 32) C dX12_duel_32 ?_
  refine r_iconst (pc := 35) C dX12_duel_35 (v := 3) (by decide) ?_
  refine ml_all (pc := 36) C dX12_duel_36 ?_
  refine r_icmp_ge 112 (pc := 37) C dX12_duel_37 (by decide) ?_ ?_
  · refine r_sub (lv' := [(3, .int x3)]) [3] rfl ?_
    exact hk8 x3
  · refine r_aload_n (pc := 40) C dX12_duel_40 0 rfl ?_
    refine r_iload (pc := 41) C dX12_duel_41 4 rfl ?_
    refine r_cVpz (As := [.int x4]) (st := []) (pc := 43) C (fun _ h => c_X12_isFirstOfMeeting h) kY_X12_isFirstOfMeeting kw_7_234 kw_0_89 kw_7_232 rfl ⟨Nat.le_of_ble_eq_true rfl, Nat.le_of_ble_eq_true rfl⟩ rfl rfl ⟨Nat.zero_le _, Nat.zero_le _⟩ 0 rfl rfl rfl (Nat.le_of_ble_eq_true rfl) dX12_duel_43 (fun x9 => ?_)
    refine r_ifb_ne 52 (pc := 46) C dX12_duel_46 (by decide) ?_ ?_
    · refine r_aload_n (pc := 52) C dX12_duel_52 0 rfl ?_
      refine r_iload (pc := 53) C dX12_duel_53 4 rfl ?_
      refine r_iload_n (pc := 55) C dX12_duel_55 1 rfl ?_
      refine r_cVpi (As := [.int x4, .int c1]) (st := []) (pc := 56) C (fun _ h => c_X12_bestAt h) kY_X12_bestAt kw_7_238 kw_0_90 kw_7_236 rfl ⟨Nat.le_of_ble_eq_true rfl, Nat.le_of_ble_eq_true rfl⟩ rfl rfl ⟨Nat.zero_le _, Nat.zero_le _⟩ 0 rfl rfl rfl (Nat.le_of_ble_eq_true rfl) dX12_duel_56 (fun x10 => ?_)
      refine r_istore (pc := 59) C dX12_duel_59 (lv' := [(0, .ref (q 0)), (1, .int c1), (2, .int c2), (3, .int x3), (4, .int x4), (5, .int x10)]) (by decide) [1, 2, 3, 4, 5, 0] rfl ?_
      refine r_aload_n (pc := 61) C dX12_duel_61 0 rfl ?_
      refine r_iload (pc := 62) C dX12_duel_62 4 rfl ?_
      refine r_iload_n (pc := 64) C dX12_duel_64 2 rfl ?_
      refine r_cVpi (As := [.int x4, .int c2]) (st := []) (pc := 65) C (fun _ h => c_X12_bestAt h) kY_X12_bestAt kw_7_238 kw_0_90 kw_7_236 rfl ⟨Nat.le_of_ble_eq_true rfl, Nat.le_of_ble_eq_true rfl⟩ rfl rfl ⟨Nat.zero_le _, Nat.zero_le _⟩ 0 rfl rfl rfl (Nat.le_of_ble_eq_true rfl) dX12_duel_65 (fun x11 => ?_)
      refine r_istore (pc := 68) C dX12_duel_68 (lv' := [(0, .ref (q 0)), (1, .int c1), (2, .int c2), (3, .int x3), (4, .int x4), (5, .int x10), (6, .int x11)]) (by decide) [1, 2, 3, 4, 5, 6, 0] rfl ?_
      refine r_iload_n (pc := 70) C dX12_duel_70 3 rfl ?_
      refine r_iload (pc := 71) C dX12_duel_71 5 rfl ?_
      refine r_jn1 104 (fun (x12 : Int32) => mw g q S) (fun (x12 : Int32) => [(0, .ref (q 0)), (1, .int c1), (2, .int c2), (4, .int x4)]) (fun (x12 : Int32) => [.int x12, .int x3]) (fun x12 => ?_) (fun k15 hk16 => ?_)
      · refine r_iadd (pc := 104) C dX12_duel_104 ?_
        refine r_istoreV_n (pc := 105) C dX12_duel_105 (lv' := fun x13 => [(0, .ref (q 0)), (1, .int c1), (2, .int c2), (3, .int x13), (4, .int x4)]) (by decide) [1, 2, 3, 0, 4] (fun _ => rfl) (fun x13 => ?_)
        refine r_iinc (pc := 106) C dX12_duel_106 (v := 1) (lv' := fun x14 => [(0, .ref (q 0)), (1, .int c1), (2, .int c2), (3, .int x13), (4, .int x14)]) 4 rfl (by decide) (by decide) [1, 2, 3, 4, 0] (fun _ => rfl) (fun x14 => ?_)
        refine r_goto 29 (pc := 109) C dX12_duel_109 (by decide) ?_
        exact ih6 x13 x14
      · refine r_jn0 103 (mw g q S) ([(0, .ref (q 0)), (1, .int c1), (2, .int c2), (4, .int x4)]) ([.int x3]) ?_ (fun k17 hk18 => ?_)
        · refine r_iconst (pc := 103) C dX12_duel_103 (v := 0) (by decide) ?_
          exact hk16 0
        · refine r_if_le 103 (pc := 73) C dX12_duel_73 (by decide) ?_ ?_
          · refine r_sub (lv' := [(0, .ref (q 0)), (1, .int c1), (2, .int c2), (4, .int x4)]) [0, 1, 2, 4] rfl ?_
            exact hk18
          · refine r_iload (pc := 76) C dX12_duel_76 6 rfl ?_
            refine r_if_le 103 (pc := 78) C dX12_duel_78 (by decide) ?_ ?_
            · refine r_sub (lv' := [(0, .ref (q 0)), (1, .int c1), (2, .int c2), (4, .int x4)]) [0, 1, 2, 4] rfl ?_
              exact hk18
            · refine r_aload_n (pc := 81) C dX12_duel_81 0 rfl ?_
              refine r_aload_n (pc := 82) C dX12_duel_82 0 rfl ?_
              refine r_iload (pc := 83) C dX12_duel_83 4 rfl ?_
              refine r_iconst (pc := 85) C dX12_duel_85 (v := 0) (by decide) ?_
              refine r_cVpi (As := [.int x4, .int 0]) (st := [.ref (q 0), .int x3]) (pc := 86) C (fun _ h => c_X12_of h) kY_X12_of kw_7_27 kw_0_64 kw_7_25 rfl ⟨Nat.le_of_ble_eq_true rfl, Nat.le_of_ble_eq_true rfl⟩ rfl rfl ⟨Nat.zero_le _, Nat.zero_le _⟩ 0 rfl rfl rfl (Nat.le_of_ble_eq_true rfl) dX12_duel_86 (fun x19 => ?_)
              refine r_iload (pc := 89) C dX12_duel_89 5 rfl ?_
              refine r_iload (pc := 91) C dX12_duel_91 6 rfl ?_
              refine r_cVpz (As := [.int x19, .int x10, .int x11]) (st := [.int x3]) (pc := 93) C (fun _ h => c_X12_isBetter h) kY_X12_isBetter kw_7_118 kw_0_75 kw_7_116 rfl ⟨Nat.le_of_ble_eq_true rfl, Nat.le_of_ble_eq_true rfl⟩ rfl rfl ⟨Nat.zero_le _, Nat.zero_le _⟩ 0 rfl rfl rfl (Nat.le_of_ble_eq_true rfl) dX12_duel_93 (fun x20 => ?_)
              refine r_ifb_eq 103 (pc := 96) C dX12_duel_96 (by decide) ?_ ?_
              · refine r_sub (lv' := [(0, .ref (q 0)), (1, .int c1), (2, .int c2), (4, .int x4)]) [0, 1, 2, 4] rfl ?_
                exact hk18
              · refine r_iconst (pc := 99) C dX12_duel_99 (v := 1) (by decide) ?_
                refine r_goto 104 (pc := 100) C dX12_duel_100 (by decide) ?_
                refine r_sub (lv' := [(0, .ref (q 0)), (1, .int c1), (2, .int c2), (4, .int x4)]) [0, 1, 2, 4] rfl ?_
                exact hk16 1
    · refine r_goto 106 (pc := 49) C dX12_duel_49 (by decide) ?_
      refine r_iinc (pc := 106) C dX12_duel_106 (v := 1) (lv' := fun x21 => [(0, .ref (q 0)), (1, .int c1), (2, .int c2), (3, .int x3), (4, .int x21)]) 4 rfl (by decide) (by decide) [1, 2, 3, 4, 0] (fun _ => rfl) (fun x21 => ?_)
      refine r_goto 29 (pc := 109) C dX12_duel_109 (by decide) ?_
      exact ih6 x3 x21
def f_X12_duel (S : MS) (a1 : Int32) (a2 : Int32) : Option (Int32) :=
  bp (f_X12_isAthlete S a1) (fun x1 =>
  (if x1 = true then
  bp (f_X12_isAthlete S a2) (fun x2 =>
  (if x2 = true then
  (if a1 = a2 then
  some (-2)
 else
  L_X12_duel_29 S a1 a2 (fun x23 =>
  some x23) FU 0 0)
 else
  some (-2)))
 else
  some (-2)))
set_option maxRecDepth 100000 in
set_option maxHeartbeats 4000000 in
theorem c_X12_duel {g : KG} {q : Nat → Nat} {S : MS} {a1 : Int32} {a2 : Int32} {r : Int32} (h : f_X12_duel S a1 a2 = some r) : ∀ l, kM l yX12_duel cX12_duel 7 (some .int) rm_X12_duel g [.ref (q 0), .int a1, .int a2] (mw g q S) (mw g q S) (some (.int r)) 0 0 := by
  refine k_open_i (own := "MarkChainsModel") (by decide) rfl (Nat.le_of_ble_eq_true rfl) (fun X C hR => ?_)
  refine (?_ : jJ X g (r : Int32) (mw g q S) 0 0 0 [(0, .ref (q 0)), (1, .int a1), (2, .int a2)] [] (f_X12_duel S a1 a2)) h
  unfold f_X12_duel
  refine r_aload_n (pc := 0) C dX12_duel_0 0 rfl ?_
  refine r_iload_n (pc := 1) C dX12_duel_1 1 rfl ?_
  refine r_cVpz (As := [.int a1]) (st := []) (pc := 2) C (fun _ h => c_X12_isAthlete h) kY_X12_isAthlete kw_7_75 kw_0_69 kw_7_73 rfl ⟨Nat.le_of_ble_eq_true rfl, Nat.le_of_ble_eq_true rfl⟩ rfl rfl ⟨Nat.zero_le _, Nat.zero_le _⟩ 0 rfl rfl rfl (Nat.le_of_ble_eq_true rfl) dX12_duel_2 (fun x1 => ?_)
  refine r_ifb_eq 21 (pc := 5) C dX12_duel_5 (by decide) ?_ ?_
  · refine r_bipush (pc := 21) C dX12_duel_21 (v := (-2)) (by decide) ?_
    exact r_retPI hR (pc := 23) dX12_duel_23
  · refine r_aload_n (pc := 8) C dX12_duel_8 0 rfl ?_
    refine r_iload_n (pc := 9) C dX12_duel_9 2 rfl ?_
    refine r_cVpz (As := [.int a2]) (st := []) (pc := 10) C (fun _ h => c_X12_isAthlete h) kY_X12_isAthlete kw_7_75 kw_0_69 kw_7_73 rfl ⟨Nat.le_of_ble_eq_true rfl, Nat.le_of_ble_eq_true rfl⟩ rfl rfl ⟨Nat.zero_le _, Nat.zero_le _⟩ 0 rfl rfl rfl (Nat.le_of_ble_eq_true rfl) dX12_duel_10 (fun x2 => ?_)
    refine r_ifb_eq 21 (pc := 13) C dX12_duel_13 (by decide) ?_ ?_
    · refine r_bipush (pc := 21) C dX12_duel_21 (v := (-2)) (by decide) ?_
      exact r_retPI hR (pc := 23) dX12_duel_23
    · refine r_iload_n (pc := 16) C dX12_duel_16 1 rfl ?_
      refine r_iload_n (pc := 17) C dX12_duel_17 2 rfl ?_
      refine r_icmp_ne 24 (pc := 18) C dX12_duel_18 (by decide) ?_ ?_
      · refine r_iconst (pc := 24) C dX12_duel_24 (v := 0) (by decide) ?_
        refine r_istore_n (pc := 25) C dX12_duel_25 (lv' := [(0, .ref (q 0)), (1, .int a1), (2, .int a2), (3, .int 0)]) (by decide) [1, 2, 3, 0] rfl ?_
        refine r_iconst (pc := 26) C dX12_duel_26 (v := 0) (by decide) ?_
        refine r_istore (pc := 27) C dX12_duel_27 (lv' := [(0, .ref (q 0)), (1, .int a1), (2, .int a2), (3, .int 0), (4, .int 0)]) (by decide) [1, 2, 3, 4, 0] rfl ?_
        refine l_X12_duel_29 C hR a1 a2 _ (fun x23 => ?_) FU 0 0
        refine r_iload_n (pc := 112) C dX12_duel_112 0 rfl ?_
        exact r_retPI hR (pc := 113) dX12_duel_113
      · refine r_bipush (pc := 21) C dX12_duel_21 (v := (-2)) (by decide) ?_
        exact r_retPI hR (pc := 23) dX12_duel_23
abbrev rm_X12_apart : Room := { frames := 0, cells := 0, slots := 0, locals := 0 }
theorem kY_X12_apart : kY yX12_apart cX12_apart 2 (some .int) 2 := ⟨kw_1_13, kw_8_6, by decide, by decide, by decide +kernel⟩
def f_X12_apart (a0 : Int32) (a1 : Int32) : Option (Int32) :=
  (if a0 ≤ a1 then
  some (a1 - a0)
 else
  some (a0 - a1))
set_option maxRecDepth 100000 in
set_option maxHeartbeats 4000000 in
theorem c_X12_apart {g : KG} {ws : va_W} {a0 : Int32} {a1 : Int32} {r : Int32} (h : f_X12_apart a0 a1 = some r) : ∀ l, kM l yX12_apart cX12_apart 2 (some .int) rm_X12_apart g [.int a0, .int a1] (ws) (ws) (some (.int r)) 0 0 := by
  refine k_open_i (own := "MarkChainsModel") (by decide) rfl (Nat.le_of_ble_eq_true rfl) (fun X C hR => ?_)
  refine (?_ : jJ X g (r : Int32) (ws) 0 0 0 [(0, .int a0), (1, .int a1)] [] (f_X12_apart a0 a1)) h
  unfold f_X12_apart
  refine r_iload_n (pc := 0) C dX12_apart_0 0 rfl ?_
  refine r_iload_n (pc := 1) C dX12_apart_1 1 rfl ?_
  refine r_icmp_le 11 (pc := 2) C dX12_apart_2 (by decide) ?_ ?_
  · refine r_iload_n (pc := 11) C dX12_apart_11 1 rfl ?_
    refine r_iload_n (pc := 12) C dX12_apart_12 0 rfl ?_
    refine r_isub (pc := 13) C dX12_apart_13 ?_
    exact r_retPI hR (pc := 14) dX12_apart_14
  · refine r_iload_n (pc := 5) C dX12_apart_5 0 rfl ?_
    refine r_iload_n (pc := 6) C dX12_apart_6 1 rfl ?_
    refine r_isub (pc := 7) C dX12_apart_7 ?_
    refine r_goto 14 (pc := 8) C dX12_apart_8 (by decide) ?_
    exact r_retPI hR (pc := 14) dX12_apart_14
abbrev rm_X12_progress : Room := { frames := 6, cells := 0, slots := 0, locals := 136 }
theorem kY_X12_progress : kY yX12_progress cX12_progress 9 (some .int) 4 := ⟨kw_1_13, kw_8_3, by decide, by decide, by decide +kernel⟩
def L_X12_progress_39 (S : MS) (k9 : Int32 → Int32 → Option (Int32 × MS)) : Nat → Int32 → Int32 → Int32 → Option (Int32 × MS) := lo3 fun rec7 x4 x5 x6 =>
  (if (S.1 20) ≤ x6 then
  k9 x4 x5
 else
  bp (f_X12_value S x6) (fun x11 =>
  bp (f_X12_value S (x6 - 1)) (fun x12 =>
  bp (f_X12_apart x11 x12) (fun x13 =>
  (if x4 < x13 then
  chk x6 60 (
  lt (S.2 19 x6.toNatClampNeg) fun x14 =>
  lt (x6 + 1) fun x15 =>
  rec7 x13 x14 x15)
 else
  lt (x6 + 1) fun x16 =>
  rec7 x4 x5 x16)))))
set_option maxRecDepth 100000 in
set_option maxHeartbeats 4000000 in
theorem l_X12_progress_39 {X : KX} {g : KG} {q : Nat → Nat} {res : Int32 × MS} {S : MS} (C : kC X g cX12_progress "MarkChainsModel" rm_X12_progress 9) (hR : ∀ (pc : Nat) (lv : List (Nat × Value)), decode cX12_progress pc = .ok (.ireturn, 1) → jW X g (mw g q res.2) 0 0 pc lv [.int res.1]) (c4 : Int32) (k9 : Int32 → Int32 → Option (Int32 × MS)) (hk10 : ∀ (x17 : Int32) (x18 : Int32), jJ X g res (mw g q S) 0 0 96 [(0, .ref (q 0)), (4, .int c4), (5, .int x17), (6, .int x18)] [] (k9 x17 x18)) : ∀ (n : Nat) (x4 : Int32) (x5 : Int32) (x6 : Int32), jJ X g res (mw g q S) 0 0 39 [(0, .ref (q 0)), (4, .int c4), (5, .int x4), (6, .int x5), (7, .int x6)] [] (L_X12_progress_39 S k9 n x4 x5 x6) := by
  refine r_lo3 (fun x4 x5 x6 => mw g q S) (fun x4 x5 x6 => [(0, .ref (q 0)), (4, .int c4), (5, .int x4), (6, .int x5), (7, .int x6)]) (fun rec7 ih8 x4 x5 x6 => ?_)
  refine r_iload (pc := 39) C dX12_progress_39 4 rfl ?_
  refine r_aload_n (pc := 41) C dX12_progress_41 0 rfl ?_
  refine mg_links (pc := 42) C dX12_progress_42 ?_
  refine r_icmp_ge 96 (pc := 45) C dX12_progress_45 (by decide) ?_ ?_
  · refine r_sub (lv' := [(0, .ref (q 0)), (4, .int c4), (5, .int x4), (6, .int x5)]) [0, 1, 2, 3] rfl ?_
    exact hk10 x4 x5
  · refine r_aload_n (pc := 48) C dX12_progress_48 0 rfl ?_
    refine r_iload (pc := 49) C dX12_progress_49 4 rfl ?_
    refine r_cVpi (As := [.int x6]) (st := []) (pc := 51) C (fun _ h => c_X12_value h) kY_X12_value kw_7_130 kw_0_77 kw_7_128 rfl ⟨Nat.le_of_ble_eq_true rfl, Nat.le_of_ble_eq_true rfl⟩ rfl rfl ⟨Nat.zero_le _, Nat.zero_le _⟩ 0 rfl rfl rfl (Nat.le_of_ble_eq_true rfl) dX12_progress_51 (fun x11 => ?_)
    refine r_aload_n (pc := 54) C dX12_progress_54 0 rfl ?_
    refine r_iload (pc := 55) C dX12_progress_55 4 rfl ?_
    refine r_iconst (pc := 57) C dX12_progress_57 (v := 1) (by decide) ?_
    refine r_isub (pc := 58) C dX12_progress_58 ?_
    refine r_cVpi (As := [.int (x6 - 1)]) (st := [.int x11]) (pc := 59) C (fun _ h => c_X12_value h) kY_X12_value kw_7_130 kw_0_77 kw_7_128 rfl ⟨Nat.le_of_ble_eq_true rfl, Nat.le_of_ble_eq_true rfl⟩ rfl rfl ⟨Nat.zero_le _, Nat.zero_le _⟩ 0 rfl rfl rfl (Nat.le_of_ble_eq_true rfl) dX12_progress_59 (fun x12 => ?_)
    refine r_cSpi (As := [.int x11, .int x12]) (st := []) (pc := 62) C (fun _ h => c_X12_apart h) kY_X12_apart kw_8_5 kw_8_4 rfl ⟨Nat.le_of_ble_eq_true rfl, Nat.le_of_ble_eq_true rfl⟩ rfl rfl ⟨Nat.zero_le _, Nat.zero_le _⟩ rfl (Nat.le_of_ble_eq_true rfl) dX12_progress_62 (fun x13 => ?_)
    refine r_istore (pc := 65) C dX12_progress_65 (lv' := [(0, .ref (q 0)), (4, .int c4), (5, .int x4), (6, .int x5), (7, .int x6), (8, .int x13)]) (by decide) [1, 2, 3, 4, 5, 0] rfl ?_
    refine r_iload (pc := 67) C dX12_progress_67 5 rfl ?_
    refine r_iload (pc := 69) C dX12_progress_69 2 rfl ?_
    refine r_icmp_gt 77 (pc := 71) C dX12_progress_71 (by decide) ?_ ?_
    · refine r_iload (pc := 77) C dX12_progress_77 5 rfl ?_
      refine r_istore (pc := 79) C dX12_progress_79 (lv' := [(0, .ref (q 0)), (4, .int c4), (5, .int x13), (6, .int x5), (7, .int x6), (8, .int x13)]) (by decide) [1, 2, 0, 3, 4, 5] rfl ?_
      refine r_aload_n (pc := 81) C dX12_progress_81 0 rfl ?_
      refine mg_link (pc := 82) C dX12_progress_82 ?_
      refine r_iload (pc := 85) C dX12_progress_85 4 rfl ?_
      refine ml_link (pc := 87) C dX12_progress_87 ?_
      refine r_istoreV (pc := 88) C dX12_progress_88 (lv' := fun x14 => [(0, .ref (q 0)), (4, .int c4), (5, .int x13), (6, .int x14), (7, .int x6), (8, .int x13)]) (by decide) [1, 2, 3, 0, 4, 5] (fun _ => rfl) (fun x14 => ?_)
      refine r_iinc (pc := 90) C dX12_progress_90 (v := 1) (lv' := fun x15 => [(0, .ref (q 0)), (4, .int c4), (5, .int x13), (6, .int x14), (7, .int x15), (8, .int x13)]) 4 rfl (by decide) (by decide) [1, 2, 3, 4, 0, 5] (fun _ => rfl) (fun x15 => ?_)
      refine r_goto 39 (pc := 93) C dX12_progress_93 (by decide) ?_
      refine r_sub (lv' := [(0, .ref (q 0)), (4, .int c4), (5, .int x13), (6, .int x14), (7, .int x15)]) [0, 1, 2, 3, 4] rfl ?_
      exact ih8 x13 x14 x15
    · refine r_goto 90 (pc := 74) C dX12_progress_74 (by decide) ?_
      refine r_iinc (pc := 90) C dX12_progress_90 (v := 1) (lv' := fun x16 => [(0, .ref (q 0)), (4, .int c4), (5, .int x4), (6, .int x5), (7, .int x16), (8, .int x13)]) 4 rfl (by decide) (by decide) [1, 2, 3, 4, 0, 5] (fun _ => rfl) (fun x16 => ?_)
      refine r_goto 39 (pc := 93) C dX12_progress_93 (by decide) ?_
      refine r_sub (lv' := [(0, .ref (q 0)), (4, .int c4), (5, .int x4), (6, .int x5), (7, .int x16)]) [0, 1, 2, 3, 4] rfl ?_
      exact ih8 x4 x5 x16
set_option maxRecDepth 100000 in
theorem v_X12_progress_39 {S0 : MS} {S : MS} (hS : (fI [20] [18, 19] S0) S) {k9 : Int32 → Int32 → Option (Int32 × MS)} (hk10 : ∀ (x17 : Int32) (x18 : Int32), (fI [20] [18, 19] S0) S → jf (fI [20] [18, 19] S0) Prod.snd (k9 x17 x18)) : ∀ (n : Nat) (x4 : Int32) (x5 : Int32) (x6 : Int32), (fI [20] [18, 19] S0) S → jf (fI [20] [18, 19] S0) Prod.snd (L_X12_progress_39 S k9 n x4 x5 x6) := by
  refine f_lo3 (I := (fI [20] [18, 19] S0)) (fun x4 x5 x6 => S) (fun rec7 ih8 x4 x5 x6 hS => ?_)
  refine f_ite ?_ ?_
  · exact hk10 x4 x5 hS
  · refine f_bp (fun x11 => ?_)
    refine f_bp (fun x12 => ?_)
    refine f_bp (fun x13 => ?_)
    refine f_ite ?_ ?_
    · refine f_chk ?_
      refine f_lt (fun x14 => ?_)
      refine f_lt (fun x15 => ?_)
      exact ih8 x13 x14 x15 hS
    · refine f_lt (fun x16 => ?_)
      exact ih8 x4 x5 x16 hS
def f_X12_progress (S : MS) (a1 : Int32) (a2 : Int32) (a3 : Int32) (a4 : Int32) : Option (Int32 × MS) :=
  bp (f_X12_canAsk S a1 a2 a3) (fun x1 =>
  (if x1 = true then
  bp (f_X12_isIn a4 0 2) (fun x2 =>
  (if x2 = true then
  bp (f_X12_layChain S a1 a2 a3) (fun S3 =>
  L_X12_progress_39 S3 (fun x19 x20 =>
  (if a4 = 1 then
  some (x19, S3)
 else
  (if a4 = 2 then
  some (x20, S3)
 else
  (if (S3.1 20) = 0 then
  some (0, S3)
 else
  bp (f_X12_value S3 0) (fun x21 =>
  bp (f_X12_recordNow S3) (fun x22 =>
  bp (f_X12_apart x21 x22) (fun x23 =>
  some (x23, S3)))))))) FU 0 (-1) 1)
 else
  some ((-2), S)))
 else
  some ((-2), S)))
set_option maxRecDepth 100000 in
set_option maxHeartbeats 4000000 in
theorem c_X12_progress {g : KG} {q : Nat → Nat} {S : MS} {a1 : Int32} {a2 : Int32} {a3 : Int32} {a4 : Int32} {r : Int32} {S' : MS} (h : f_X12_progress S a1 a2 a3 a4 = some (r, S')) : ∀ l, kM l yX12_progress cX12_progress 9 (some .int) rm_X12_progress g [.ref (q 0), .int a1, .int a2, .int a3, .int a4] (mw g q S) (mw g q S') (some (.int r)) 0 0 := by
  refine k_open_i (own := "MarkChainsModel") (by decide) rfl (Nat.le_of_ble_eq_true rfl) (fun X C hR => ?_)
  refine (?_ : jJ X g ((r, S') : Int32 × MS) (mw g q S) 0 0 0 [(0, .ref (q 0)), (1, .int a1), (2, .int a2), (3, .int a3), (4, .int a4)] [] (f_X12_progress S a1 a2 a3 a4)) h
  unfold f_X12_progress
  refine r_aload_n (pc := 0) C dX12_progress_0 0 rfl ?_
  refine r_iload_n (pc := 1) C dX12_progress_1 1 rfl ?_
  refine r_iload_n (pc := 2) C dX12_progress_2 2 rfl ?_
  refine r_iload_n (pc := 3) C dX12_progress_3 3 rfl ?_
  refine r_cVpz (As := [.int a1, .int a2, .int a3]) (st := []) (pc := 4) C (fun _ h => c_X12_canAsk h) kY_X12_canAsk kw_7_102 kw_0_71 kw_7_100 rfl ⟨Nat.le_of_ble_eq_true rfl, Nat.le_of_ble_eq_true rfl⟩ rfl rfl ⟨Nat.zero_le _, Nat.zero_le _⟩ 0 rfl rfl rfl (Nat.le_of_ble_eq_true rfl) dX12_progress_4 (fun x1 => ?_)
  refine r_ifb_eq 20 (pc := 7) C dX12_progress_7 (by decide) ?_ ?_
  · refine r_bipush (pc := 20) C dX12_progress_20 (v := (-2)) (by decide) ?_
    exact r_retWI (wf := mw g q) hR (pc := 22) dX12_progress_22
  · refine r_iload (pc := 10) C dX12_progress_10 4 rfl ?_
    refine r_iconst (pc := 12) C dX12_progress_12 (v := 0) (by decide) ?_
    refine r_iconst (pc := 13) C dX12_progress_13 (v := 2) (by decide) ?_
    refine r_cSpz (As := [.int a4, .int 0, .int 2]) (st := []) (pc := 14) C (fun _ h => c_X12_isIn h) kY_X12_isIn kw_6_124 kw_6_123 rfl ⟨Nat.le_of_ble_eq_true rfl, Nat.le_of_ble_eq_true rfl⟩ rfl rfl ⟨Nat.zero_le _, Nat.zero_le _⟩ rfl (Nat.le_of_ble_eq_true rfl) dX12_progress_14 (fun x2 => ?_)
    refine r_ifb_ne 23 (pc := 17) C dX12_progress_17 (by decide) ?_ ?_
    · refine r_aload_n (pc := 23) C dX12_progress_23 0 rfl ?_
      refine r_iload_n (pc := 24) C dX12_progress_24 1 rfl ?_
      refine r_iload_n (pc := 25) C dX12_progress_25 2 rfl ?_
      refine r_iload_n (pc := 26) C dX12_progress_26 3 rfl ?_
      refine r_cVwv (As := [.int a1, .int a2, .int a3]) (st := []) (wf := mw g q) (pc := 27) C (fun _ h => c_X12_layChain h) kY_X12_layChain kw_7_106 kw_0_72 kw_7_104 rfl ⟨Nat.le_of_ble_eq_true rfl, Nat.le_of_ble_eq_true rfl⟩ rfl rfl ⟨Nat.zero_le _, Nat.zero_le _⟩ 0 rfl rfl rfl (Nat.le_of_ble_eq_true rfl) dX12_progress_27 (fun S3 => ?_)
      refine r_iconst (pc := 30) C dX12_progress_30 (v := 0) (by decide) ?_
      refine r_istore (pc := 31) C dX12_progress_31 (lv' := [(0, .ref (q 0)), (1, .int a1), (2, .int a2), (3, .int a3), (4, .int a4), (5, .int 0)]) (by decide) [1, 2, 3, 4, 5, 0] rfl ?_
      refine r_iconst (pc := 33) C dX12_progress_33 (v := (-1)) (by decide) ?_
      refine r_istore (pc := 34) C dX12_progress_34 (lv' := [(0, .ref (q 0)), (1, .int a1), (2, .int a2), (3, .int a3), (4, .int a4), (5, .int 0), (6, .int (-1))]) (by decide) [1, 2, 3, 4, 5, 6, 0] rfl ?_
      refine r_iconst (pc := 36) C dX12_progress_36 (v := 1) (by decide) ?_
      refine r_istore (pc := 37) C dX12_progress_37 (lv' := [(0, .ref (q 0)), (1, .int a1), (2, .int a2), (3, .int a3), (4, .int a4), (5, .int 0), (6, .int (-1)), (7, .int 1)]) (by decide) [1, 2, 3, 4, 5, 6, 7, 0] rfl ?_
      refine r_sub (lv' := [(0, .ref (q 0)), (4, .int a4), (5, .int 0), (6, .int (-1)), (7, .int 1)]) [0, 4, 5, 6, 7] rfl ?_
      refine l_X12_progress_39 C hR a4 _ (fun x19 x20 => ?_) FU 0 (-1) 1
      refine r_iload (pc := 96) C dX12_progress_96 1 rfl ?_
      refine r_iconst (pc := 98) C dX12_progress_98 (v := 1) (by decide) ?_
      refine r_icmp_ne 107 (pc := 99) C dX12_progress_99 (by decide) ?_ ?_
      · refine r_iload (pc := 107) C dX12_progress_107 1 rfl ?_
        refine r_iconst (pc := 109) C dX12_progress_109 (v := 2) (by decide) ?_
        refine r_icmp_ne 118 (pc := 110) C dX12_progress_110 (by decide) ?_ ?_
        · refine r_aload_n (pc := 118) C dX12_progress_118 0 rfl ?_
          refine mg_links (pc := 119) C dX12_progress_119 ?_
          refine r_if_ne 129 (pc := 122) C dX12_progress_122 (by decide) ?_ ?_
          · refine r_aload_n (pc := 129) C dX12_progress_129 0 rfl ?_
            refine r_iconst (pc := 130) C dX12_progress_130 (v := 0) (by decide) ?_
            refine r_cVpi (As := [.int 0]) (st := []) (pc := 131) C (fun _ h => c_X12_value h) kY_X12_value kw_7_130 kw_0_77 kw_7_128 rfl ⟨Nat.le_of_ble_eq_true rfl, Nat.le_of_ble_eq_true rfl⟩ rfl rfl ⟨Nat.zero_le _, Nat.zero_le _⟩ 0 rfl rfl rfl (Nat.le_of_ble_eq_true rfl) dX12_progress_131 (fun x21 => ?_)
            refine r_aload_n (pc := 134) C dX12_progress_134 0 rfl ?_
            refine r_cVpi (As := []) (st := [.int x21]) (pc := 135) C (fun _ h => c_X12_recordNow h) kY_X12_recordNow kw_7_126 kw_0_76 kw_7_124 rfl ⟨Nat.le_of_ble_eq_true rfl, Nat.le_of_ble_eq_true rfl⟩ rfl rfl ⟨Nat.zero_le _, Nat.zero_le _⟩ 0 rfl rfl rfl (Nat.le_of_ble_eq_true rfl) dX12_progress_135 (fun x22 => ?_)
            refine r_cSpi (As := [.int x21, .int x22]) (st := []) (pc := 138) C (fun _ h => c_X12_apart h) kY_X12_apart kw_8_5 kw_8_4 rfl ⟨Nat.le_of_ble_eq_true rfl, Nat.le_of_ble_eq_true rfl⟩ rfl rfl ⟨Nat.zero_le _, Nat.zero_le _⟩ rfl (Nat.le_of_ble_eq_true rfl) dX12_progress_138 (fun x23 => ?_)
            exact r_retWI (wf := mw g q) hR (pc := 141) dX12_progress_141
          · refine r_iconst (pc := 125) C dX12_progress_125 (v := 0) (by decide) ?_
            refine r_goto 141 (pc := 126) C dX12_progress_126 (by decide) ?_
            exact r_retWI (wf := mw g q) hR (pc := 141) dX12_progress_141
        · refine r_iload (pc := 113) C dX12_progress_113 3 rfl ?_
          refine r_goto 141 (pc := 115) C dX12_progress_115 (by decide) ?_
          exact r_retWI (wf := mw g q) hR (pc := 141) dX12_progress_141
      · refine r_iload (pc := 102) C dX12_progress_102 2 rfl ?_
        refine r_goto 141 (pc := 104) C dX12_progress_104 (by decide) ?_
        exact r_retWI (wf := mw g q) hR (pc := 141) dX12_progress_141
    · refine r_bipush (pc := 20) C dX12_progress_20 (v := (-2)) (by decide) ?_
      exact r_retWI (wf := mw g q) hR (pc := 22) dX12_progress_22
set_option maxRecDepth 100000 in
theorem w_X12_progress {S : MS} {a1 : Int32} {a2 : Int32} {a3 : Int32} {a4 : Int32} {r : Int32} {S' : MS} (h : f_X12_progress S a1 a2 a3 a4 = some (r, S')) : fI [20] [18, 19] S S' := by
  have hS : fI [20] [18, 19] S S := fI_rf
  refine (?_ : jf (fI [20] [18, 19] S) Prod.snd (f_X12_progress S a1 a2 a3 a4)) _ h
  unfold f_X12_progress
  refine f_bp (fun x1 => ?_)
  refine f_ite ?_ ?_
  · refine f_bp (fun x2 => ?_)
    refine f_ite ?_ ?_
    · refine f_bpS (fun _ h => fI_tr hS (w_X12_layChain h) (by decide) (by decide)) (fun S3 hS3 => ?_)
      refine v_X12_progress_39 hS3 (fun x19 x20 hS3 => ?_) FU 0 (-1) 1 hS3
      refine f_ite ?_ ?_
      · exact f_some hS3
      · refine f_ite ?_ ?_
        · exact f_some hS3
        · refine f_ite ?_ ?_
          · exact f_some hS3
          · refine f_bp (fun x21 => ?_)
            refine f_bp (fun x22 => ?_)
            refine f_bp (fun x23 => ?_)
            exact f_some hS3
    · exact f_some hS
  · exact f_some hS
abbrev rm_X12_isInChain : Room := { frames := 6, cells := 0, slots := 0, locals := 136 }
theorem kY_X12_isInChain : kY yX12_isInChain cX12_isInChain 4 (some .boolean) 3 := ⟨kw_1_13, kw_8_14, by decide, by decide, by decide +kernel⟩
def f_X12_isInChain (S : MS) (a1 : Int32) (a2 : Int32) (a3 : Int32) : Option (Bool × MS) :=
  chk 4 1177 (
  bp (f_X12_isIn a3 0 (S.2 0 (4 : Int32).toNatClampNeg)) (fun x1 =>
  (if x1 = true then
  bp (f_X12_of S a1 0) (fun x2 =>
  bp (f_X12_layChain S x2 a2 a3) (fun S3 =>
  bp (f_X12_isLinked S3 a1) (fun x4 =>
  some (x4, S3))))
 else
  some (false, S))))
set_option maxRecDepth 100000 in
set_option maxHeartbeats 4000000 in
theorem c_X12_isInChain {g : KG} {q : Nat → Nat} {S : MS} {a1 : Int32} {a2 : Int32} {a3 : Int32} {r : Bool} {S' : MS} (h : f_X12_isInChain S a1 a2 a3 = some (r, S')) : ∀ l, kM l yX12_isInChain cX12_isInChain 4 (some .boolean) rm_X12_isInChain g [.ref (q 0), .int a1, .int a2, .int a3] (mw g q S) (mw g q S') (some (.int (b2 r))) 0 0 := by
  refine k_open_z (own := "MarkChainsModel") (by decide) rfl (Nat.le_of_ble_eq_true rfl) (fun X C hR => ?_)
  refine (?_ : jJ X g ((r, S') : Bool × MS) (mw g q S) 0 0 0 [(0, .ref (q 0)), (1, .int a1), (2, .int a2), (3, .int a3)] [] (f_X12_isInChain S a1 a2 a3)) h
  unfold f_X12_isInChain
  refine r_iload_n (pc := 0) C dX12_isInChain_0 3 rfl ?_
  refine r_iconst (pc := 1) C dX12_isInChain_1 (v := 0) (by decide) ?_
  refine r_aload_n (pc := 2) C dX12_isInChain_2 0 rfl ?_
  refine mg_all (pc := 3) C dX12_isInChain_3 ?_
  refine r_iconst (pc := 6) C dX12_isInChain_6 (v := 4) (by decide) ?_
  refine ml_all (pc := 7) C dX12_isInChain_7 ?_
  refine r_cSpz (As := [.int a3, .int 0, .int (S.2 0 (4 : Int32).toNatClampNeg)]) (st := []) (pc := 8) C (fun _ h => c_X12_isIn h) kY_X12_isIn kw_6_124 kw_6_123 rfl ⟨Nat.le_of_ble_eq_true rfl, Nat.le_of_ble_eq_true rfl⟩ rfl rfl ⟨Nat.zero_le _, Nat.zero_le _⟩ rfl (Nat.le_of_ble_eq_true rfl) dX12_isInChain_8 (fun x1 => ?_)
  refine r_ifb_ne 16 (pc := 11) C dX12_isInChain_11 (by decide) ?_ ?_
  · refine r_aload_n (pc := 16) C dX12_isInChain_16 0 rfl ?_
    refine r_aload_n (pc := 17) C dX12_isInChain_17 0 rfl ?_
    refine r_iload_n (pc := 18) C dX12_isInChain_18 1 rfl ?_
    refine r_iconst (pc := 19) C dX12_isInChain_19 (v := 0) (by decide) ?_
    refine r_cVpi (As := [.int a1, .int 0]) (st := [.ref (q 0)]) (pc := 20) C (fun _ h => c_X12_of h) kY_X12_of kw_7_27 kw_0_64 kw_7_25 rfl ⟨Nat.le_of_ble_eq_true rfl, Nat.le_of_ble_eq_true rfl⟩ rfl rfl ⟨Nat.zero_le _, Nat.zero_le _⟩ 0 rfl rfl rfl (Nat.le_of_ble_eq_true rfl) dX12_isInChain_20 (fun x2 => ?_)
    refine r_iload_n (pc := 23) C dX12_isInChain_23 2 rfl ?_
    refine r_iload_n (pc := 24) C dX12_isInChain_24 3 rfl ?_
    refine r_cVwv (As := [.int x2, .int a2, .int a3]) (st := []) (wf := mw g q) (pc := 25) C (fun _ h => c_X12_layChain h) kY_X12_layChain kw_7_106 kw_0_72 kw_7_104 rfl ⟨Nat.le_of_ble_eq_true rfl, Nat.le_of_ble_eq_true rfl⟩ rfl rfl ⟨Nat.zero_le _, Nat.zero_le _⟩ 0 rfl rfl rfl (Nat.le_of_ble_eq_true rfl) dX12_isInChain_25 (fun S3 => ?_)
    refine r_aload_n (pc := 28) C dX12_isInChain_28 0 rfl ?_
    refine r_iload_n (pc := 29) C dX12_isInChain_29 1 rfl ?_
    refine r_cVpz (As := [.int a1]) (st := []) (pc := 30) C (fun _ h => c_X12_isLinked h) kY_X12_isLinked kw_7_166 kw_0_81 kw_7_164 rfl ⟨Nat.le_of_ble_eq_true rfl, Nat.le_of_ble_eq_true rfl⟩ rfl rfl ⟨Nat.zero_le _, Nat.zero_le _⟩ 0 rfl rfl rfl (Nat.le_of_ble_eq_true rfl) dX12_isInChain_30 (fun x4 => ?_)
    exact r_retWZ hR rfl (pc := 33) dX12_isInChain_33
  · refine r_iconst (pc := 14) C dX12_isInChain_14 (v := 0) (by decide) ?_
    exact r_retWZ hR rfl (pc := 15) dX12_isInChain_15
set_option maxRecDepth 100000 in
theorem w_X12_isInChain {S : MS} {a1 : Int32} {a2 : Int32} {a3 : Int32} {r : Bool} {S' : MS} (h : f_X12_isInChain S a1 a2 a3 = some (r, S')) : fI [20] [18, 19] S S' := by
  have hS : fI [20] [18, 19] S S := fI_rf
  refine (?_ : jf (fI [20] [18, 19] S) Prod.snd (f_X12_isInChain S a1 a2 a3)) _ h
  unfold f_X12_isInChain
  refine f_chk ?_
  refine f_bp (fun x1 => ?_)
  refine f_ite ?_ ?_
  · refine f_bp (fun x2 => ?_)
    refine f_bpS (fun _ h => fI_tr hS (w_X12_layChain h) (by decide) (by decide)) (fun S3 hS3 => ?_)
    refine f_bp (fun x4 => ?_)
    exact f_some hS3
  · exact f_some hS
abbrev rm_X12_since : Room := { frames := 7, cells := 0, slots := 0, locals := 159 }
theorem kY_X12_since : kY yX12_since cX12_since 7 (some .int) 2 := ⟨kw_1_13, kw_8_10, by decide, by decide, by decide +kernel⟩
def L_X12_since_38 (c1 : Int32) (c2 : Int32) (c4 : Int32) (k15 : MS → Int32 → Option (Int32 × MS)) : Nat → MS → Int32 → Int32 → Option (Int32 × MS) := lo3 fun rec13 S12 x10 x11 =>
  (if 10 < x11 then
  k15 S12 x10
 else
  bp (f_X12_of S12 c4 x11) (fun x17 =>
  jn0 (bw (f_X12_isInChain S12 c1 c2 x17) (fun x18 S19 =>
  (if x18 = true then
  lt (x11 + 1) fun x21 =>
  rec13 S19 x17 x21
 else
  lt (x11 + 1) fun x20 =>
  rec13 S19 x10 x20))) (fun k22 =>
  (if x10 = (-1) then
  k22
 else
  (if x10 ≤ x17 then
  lt (x11 + 1) fun x24 =>
  rec13 S12 x10 x24
 else
  k22)))))
set_option maxRecDepth 100000 in
set_option maxHeartbeats 4000000 in
theorem l_X12_since_38 {X : KX} {g : KG} {q : Nat → Nat} {res : Int32 × MS} (C : kC X g cX12_since "MarkChainsModel" rm_X12_since 7) (hR : ∀ (pc : Nat) (lv : List (Nat × Value)), decode cX12_since pc = .ok (.ireturn, 1) → jW X g (mw g q res.2) 0 0 pc lv [.int res.1]) (c1 : Int32) (c2 : Int32) (c4 : Int32) (k15 : MS → Int32 → Option (Int32 × MS)) (hk16 : ∀ (S25 : MS) (x26 : Int32), jJ X g res (mw g q S25) 0 0 86 [(0, .ref (q 0)), (1, .int c1), (2, .int c2), (3, .int x26), (4, .int c4)] [] (k15 S25 x26)) : ∀ (n : Nat) (S12 : MS) (x10 : Int32) (x11 : Int32), jJ X g res (mw g q S12) 0 0 38 [(0, .ref (q 0)), (1, .int c1), (2, .int c2), (3, .int x10), (4, .int c4), (5, .int x11)] [] (L_X12_since_38 c1 c2 c4 k15 n S12 x10 x11) := by
  refine r_lo3 (fun S12 x10 x11 => mw g q S12) (fun S12 x10 x11 => [(0, .ref (q 0)), (1, .int c1), (2, .int c2), (3, .int x10), (4, .int c4), (5, .int x11)]) (fun rec13 ih14 S12 x10 x11 => ?_)
  refine r_iload (pc := 38) C dX12_since_38 5 rfl ?_
  refine r_bipush (pc := 40) C dX12_since_40 (v := 10) (by decide) ?_
  refine r_icmp_gt 86 (pc := 42) C dX12_since_42 (by decide) ?_ ?_
  · refine r_sub (lv' := [(0, .ref (q 0)), (1, .int c1), (2, .int c2), (3, .int x10), (4, .int c4)]) [0, 1, 2, 3, 4] rfl ?_
    exact hk16 S12 x10
  · refine r_aload_n (pc := 45) C dX12_since_45 0 rfl ?_
    refine r_iload (pc := 46) C dX12_since_46 4 rfl ?_
    refine r_iload (pc := 48) C dX12_since_48 5 rfl ?_
    refine r_cVpi (As := [.int c4, .int x11]) (st := []) (pc := 50) C (fun _ h => c_X12_of h) kY_X12_of kw_7_27 kw_0_64 kw_7_25 rfl ⟨Nat.le_of_ble_eq_true rfl, Nat.le_of_ble_eq_true rfl⟩ rfl rfl ⟨Nat.zero_le _, Nat.zero_le _⟩ 0 rfl rfl rfl (Nat.le_of_ble_eq_true rfl) dX12_since_50 (fun x17 => ?_)
    refine r_istore (pc := 53) C dX12_since_53 (lv' := [(0, .ref (q 0)), (1, .int c1), (2, .int c2), (3, .int x10), (4, .int c4), (5, .int x11), (6, .int x17)]) (by decide) [1, 2, 3, 4, 5, 6, 0] rfl ?_
    refine r_iload_n (pc := 55) C dX12_since_55 3 rfl ?_
    refine r_iconst (pc := 56) C dX12_since_56 (v := (-1)) (by decide) ?_
    refine r_jn0 66 (mw g q S12) ([(0, .ref (q 0)), (1, .int c1), (2, .int c2), (3, .int x10), (4, .int c4), (5, .int x11), (6, .int x17)]) ([]) ?_ (fun k22 hk23 => ?_)
    · refine r_aload_n (pc := 66) C dX12_since_66 0 rfl ?_
      refine r_iload_n (pc := 67) C dX12_since_67 1 rfl ?_
      refine r_iload_n (pc := 68) C dX12_since_68 2 rfl ?_
      refine r_iload (pc := 69) C dX12_since_69 6 rfl ?_
      refine r_cVwz (As := [.int c1, .int c2, .int x17]) (st := []) (wf := mw g q) (pc := 71) C (fun _ _ h => c_X12_isInChain h) kY_X12_isInChain kw_8_13 kw_0_91 kw_8_11 rfl ⟨Nat.le_of_ble_eq_true rfl, Nat.le_of_ble_eq_true rfl⟩ rfl rfl ⟨Nat.zero_le _, Nat.zero_le _⟩ 0 rfl rfl rfl (Nat.le_of_ble_eq_true rfl) dX12_since_71 (fun x18 S19 => ?_)
      refine r_ifb_eq 80 (pc := 74) C dX12_since_74 (by decide) ?_ ?_
      · refine r_iinc (pc := 80) C dX12_since_80 (v := 1) (lv' := fun x20 => [(0, .ref (q 0)), (1, .int c1), (2, .int c2), (3, .int x10), (4, .int c4), (5, .int x20), (6, .int x17)]) 5 rfl (by decide) (by decide) [1, 2, 3, 4, 5, 0, 6] (fun _ => rfl) (fun x20 => ?_)
        refine r_goto 38 (pc := 83) C dX12_since_83 (by decide) ?_
        refine r_sub (lv' := [(0, .ref (q 0)), (1, .int c1), (2, .int c2), (3, .int x10), (4, .int c4), (5, .int x20)]) [0, 1, 2, 3, 4, 5] rfl ?_
        exact ih14 S19 x10 x20
      · refine r_iload (pc := 77) C dX12_since_77 6 rfl ?_
        refine r_istore_n (pc := 79) C dX12_since_79 (lv' := [(0, .ref (q 0)), (1, .int c1), (2, .int c2), (3, .int x17), (4, .int c4), (5, .int x11), (6, .int x17)]) (by decide) [1, 2, 3, 0, 4, 5, 6] rfl ?_
        refine r_iinc (pc := 80) C dX12_since_80 (v := 1) (lv' := fun x21 => [(0, .ref (q 0)), (1, .int c1), (2, .int c2), (3, .int x17), (4, .int c4), (5, .int x21), (6, .int x17)]) 5 rfl (by decide) (by decide) [1, 2, 3, 4, 5, 0, 6] (fun _ => rfl) (fun x21 => ?_)
        refine r_goto 38 (pc := 83) C dX12_since_83 (by decide) ?_
        refine r_sub (lv' := [(0, .ref (q 0)), (1, .int c1), (2, .int c2), (3, .int x17), (4, .int c4), (5, .int x21)]) [0, 1, 2, 3, 4, 5] rfl ?_
        exact ih14 S19 x17 x21
    · refine r_icmp_eq 66 (pc := 57) C dX12_since_57 (by decide) ?_ ?_
      · exact hk23
      · refine r_iload (pc := 60) C dX12_since_60 6 rfl ?_
        refine r_iload_n (pc := 62) C dX12_since_62 3 rfl ?_
        refine r_icmp_ge 80 (pc := 63) C dX12_since_63 (by decide) ?_ ?_
        · refine r_iinc (pc := 80) C dX12_since_80 (v := 1) (lv' := fun x24 => [(0, .ref (q 0)), (1, .int c1), (2, .int c2), (3, .int x10), (4, .int c4), (5, .int x24), (6, .int x17)]) 5 rfl (by decide) (by decide) [1, 2, 3, 4, 5, 0, 6] (fun _ => rfl) (fun x24 => ?_)
          refine r_goto 38 (pc := 83) C dX12_since_83 (by decide) ?_
          refine r_sub (lv' := [(0, .ref (q 0)), (1, .int c1), (2, .int c2), (3, .int x10), (4, .int c4), (5, .int x24)]) [0, 1, 2, 3, 4, 5] rfl ?_
          exact ih14 S12 x10 x24
        · exact hk23
set_option maxRecDepth 100000 in
theorem v_X12_since_38 {S0 : MS} {c1 : Int32} {c2 : Int32} {c4 : Int32} {k15 : MS → Int32 → Option (Int32 × MS)} (hk16 : ∀ (S25 : MS) (x26 : Int32), (fI [20] [18, 19] S0) S25 → jf (fI [20] [18, 19] S0) Prod.snd (k15 S25 x26)) : ∀ (n : Nat) (S12 : MS) (x10 : Int32) (x11 : Int32), (fI [20] [18, 19] S0) S12 → jf (fI [20] [18, 19] S0) Prod.snd (L_X12_since_38 c1 c2 c4 k15 n S12 x10 x11) := by
  refine f_lo3 (I := (fI [20] [18, 19] S0)) (fun S12 x10 x11 => S12) (fun rec13 ih14 S12 x10 x11 hS12 => ?_)
  refine f_ite ?_ ?_
  · exact hk16 S12 x10 hS12
  · refine f_bp (fun x17 => ?_)
    refine f_jm0 hS12 (fun  hS12 => ?_) (fun k22 hk23 => ?_)
    · refine f_bwS (fun _ _ h => fI_tr hS12 (w_X12_isInChain h) (by decide) (by decide)) (fun x18 S19 hS19 => ?_)
      refine f_ite ?_ ?_
      · refine f_lt (fun x21 => ?_)
        exact ih14 S19 x17 x21 hS19
      · refine f_lt (fun x20 => ?_)
        exact ih14 S19 x10 x20 hS19
    · refine f_ite ?_ ?_
      · exact hk23 hS12
      · refine f_ite ?_ ?_
        · refine f_lt (fun x24 => ?_)
          exact ih14 S12 x10 x24 hS12
        · exact hk23 hS12
def L_X12_since_23 (c1 : Int32) (c2 : Int32) (k8 : MS → Int32 → Option (Int32 × MS)) : Nat → MS → Int32 → Int32 → Option (Int32 × MS) := lo3 fun rec6 S5 x3 x4 =>
  chk 3 1177 (
  (if (S5.2 0 (3 : Int32).toNatClampNeg) ≤ x4 then
  k8 S5 x3
 else
  L_X12_since_38 c1 c2 x4 (fun S27 x28 =>
  lt (x4 + 1) fun x29 =>
  rec6 S27 x28 x29) FU S5 x3 9))
set_option maxRecDepth 100000 in
set_option maxHeartbeats 4000000 in
theorem l_X12_since_23 {X : KX} {g : KG} {q : Nat → Nat} {res : Int32 × MS} (C : kC X g cX12_since "MarkChainsModel" rm_X12_since 7) (hR : ∀ (pc : Nat) (lv : List (Nat × Value)), decode cX12_since pc = .ok (.ireturn, 1) → jW X g (mw g q res.2) 0 0 pc lv [.int res.1]) (c1 : Int32) (c2 : Int32) (k8 : MS → Int32 → Option (Int32 × MS)) (hk9 : ∀ (S30 : MS) (x31 : Int32), jJ X g res (mw g q S30) 0 0 92 [(3, .int x31)] [] (k8 S30 x31)) : ∀ (n : Nat) (S5 : MS) (x3 : Int32) (x4 : Int32), jJ X g res (mw g q S5) 0 0 23 [(0, .ref (q 0)), (1, .int c1), (2, .int c2), (3, .int x3), (4, .int x4)] [] (L_X12_since_23 c1 c2 k8 n S5 x3 x4) := by
  refine r_lo3 (fun S5 x3 x4 => mw g q S5) (fun S5 x3 x4 => [(0, .ref (q 0)), (1, .int c1), (2, .int c2), (3, .int x3), (4, .int x4)]) (fun rec6 ih7 S5 x3 x4 => ?_)
  refine r_iload (pc := 23) C dX12_since_23 4 rfl ?_
  refine r_aload_n (pc := 25) C dX12_since_25 0 rfl ?_
  refine mg_all (pc := 26) C dX12_since_26 ?_
  refine r_iconst (pc := 29) C dX12_since_29 (v := 3) (by decide) ?_
  refine ml_all (pc := 30) C dX12_since_30 ?_
  refine r_icmp_ge 92 (pc := 31) C dX12_since_31 (by decide) ?_ ?_
  · refine r_sub (lv' := [(3, .int x3)]) [3] rfl ?_
    exact hk9 S5 x3
  · refine r_bipush (pc := 34) C dX12_since_34 (v := 9) (by decide) ?_
    refine r_istore (pc := 36) C dX12_since_36 (lv' := [(0, .ref (q 0)), (1, .int c1), (2, .int c2), (3, .int x3), (4, .int x4), (5, .int 9)]) (by decide) [1, 2, 3, 4, 5, 0] rfl ?_
    refine l_X12_since_38 C hR c1 c2 x4 _ (fun S27 x28 => ?_) FU S5 x3 9
    refine r_iinc (pc := 86) C dX12_since_86 (v := 1) (lv' := fun x29 => [(0, .ref (q 0)), (1, .int c1), (2, .int c2), (3, .int x28), (4, .int x29)]) 4 rfl (by decide) (by decide) [1, 2, 3, 4, 0] (fun _ => rfl) (fun x29 => ?_)
    refine r_goto 23 (pc := 89) C dX12_since_89 (by decide) ?_
    exact ih7 S27 x28 x29
set_option maxRecDepth 100000 in
theorem v_X12_since_23 {S0 : MS} {c1 : Int32} {c2 : Int32} {k8 : MS → Int32 → Option (Int32 × MS)} (hk9 : ∀ (S30 : MS) (x31 : Int32), (fI [20] [18, 19] S0) S30 → jf (fI [20] [18, 19] S0) Prod.snd (k8 S30 x31)) : ∀ (n : Nat) (S5 : MS) (x3 : Int32) (x4 : Int32), (fI [20] [18, 19] S0) S5 → jf (fI [20] [18, 19] S0) Prod.snd (L_X12_since_23 c1 c2 k8 n S5 x3 x4) := by
  refine f_lo3 (I := (fI [20] [18, 19] S0)) (fun S5 x3 x4 => S5) (fun rec6 ih7 S5 x3 x4 hS5 => ?_)
  refine f_chk ?_
  refine f_ite ?_ ?_
  · exact hk9 S5 x3 hS5
  · refine v_X12_since_38 (fun S27 x28 hS27 => ?_) FU S5 x3 9 hS5
    refine f_lt (fun x29 => ?_)
    exact ih7 S27 x28 x29 hS27
def f_X12_since (S : MS) (a1 : Int32) (a2 : Int32) : Option (Int32 × MS) :=
  bp (f_X12_isMark S a1) (fun x1 =>
  (if x1 = true then
  bp (f_X12_isScope a2) (fun x2 =>
  (if x2 = true then
  L_X12_since_23 a1 a2 (fun S32 x33 =>
  some (x33, S32)) FU S (-1) 0
 else
  some ((-2), S)))
 else
  some ((-2), S)))
set_option maxRecDepth 100000 in
set_option maxHeartbeats 4000000 in
theorem c_X12_since {g : KG} {q : Nat → Nat} {S : MS} {a1 : Int32} {a2 : Int32} {r : Int32} {S' : MS} (h : f_X12_since S a1 a2 = some (r, S')) : ∀ l, kM l yX12_since cX12_since 7 (some .int) rm_X12_since g [.ref (q 0), .int a1, .int a2] (mw g q S) (mw g q S') (some (.int r)) 0 0 := by
  refine k_open_i (own := "MarkChainsModel") (by decide) rfl (Nat.le_of_ble_eq_true rfl) (fun X C hR => ?_)
  refine (?_ : jJ X g ((r, S') : Int32 × MS) (mw g q S) 0 0 0 [(0, .ref (q 0)), (1, .int a1), (2, .int a2)] [] (f_X12_since S a1 a2)) h
  unfold f_X12_since
  refine r_aload_n (pc := 0) C dX12_since_0 0 rfl ?_
  refine r_iload_n (pc := 1) C dX12_since_1 1 rfl ?_
  refine r_cVpz (As := [.int a1]) (st := []) (pc := 2) C (fun _ h => c_X12_isMark h) kY_X12_isMark kw_7_11 kw_0_60 kw_7_9 rfl ⟨Nat.le_of_ble_eq_true rfl, Nat.le_of_ble_eq_true rfl⟩ rfl rfl ⟨Nat.zero_le _, Nat.zero_le _⟩ 0 rfl rfl rfl (Nat.le_of_ble_eq_true rfl) dX12_since_2 (fun x1 => ?_)
  refine r_ifb_eq 15 (pc := 5) C dX12_since_5 (by decide) ?_ ?_
  · refine r_bipush (pc := 15) C dX12_since_15 (v := (-2)) (by decide) ?_
    exact r_retWI (wf := mw g q) hR (pc := 17) dX12_since_17
  · refine r_iload_n (pc := 8) C dX12_since_8 2 rfl ?_
    refine r_cSpz (As := [.int a2]) (st := []) (pc := 9) C (fun _ h => c_X12_isScope h) kY_X12_isScope kw_7_90 kw_7_89 rfl ⟨Nat.le_of_ble_eq_true rfl, Nat.le_of_ble_eq_true rfl⟩ rfl rfl ⟨Nat.zero_le _, Nat.zero_le _⟩ rfl (Nat.le_of_ble_eq_true rfl) dX12_since_9 (fun x2 => ?_)
    refine r_ifb_ne 18 (pc := 12) C dX12_since_12 (by decide) ?_ ?_
    · refine r_iconst (pc := 18) C dX12_since_18 (v := (-1)) (by decide) ?_
      refine r_istore_n (pc := 19) C dX12_since_19 (lv' := [(0, .ref (q 0)), (1, .int a1), (2, .int a2), (3, .int (-1))]) (by decide) [1, 2, 3, 0] rfl ?_
      refine r_iconst (pc := 20) C dX12_since_20 (v := 0) (by decide) ?_
      refine r_istore (pc := 21) C dX12_since_21 (lv' := [(0, .ref (q 0)), (1, .int a1), (2, .int a2), (3, .int (-1)), (4, .int 0)]) (by decide) [1, 2, 3, 4, 0] rfl ?_
      refine l_X12_since_23 C hR a1 a2 _ (fun S32 x33 => ?_) FU S (-1) 0
      refine r_iload_n (pc := 92) C dX12_since_92 0 rfl ?_
      exact r_retWI (wf := mw g q) hR (pc := 93) dX12_since_93
    · refine r_bipush (pc := 15) C dX12_since_15 (v := (-2)) (by decide) ?_
      exact r_retWI (wf := mw g q) hR (pc := 17) dX12_since_17
set_option maxRecDepth 100000 in
theorem w_X12_since {S : MS} {a1 : Int32} {a2 : Int32} {r : Int32} {S' : MS} (h : f_X12_since S a1 a2 = some (r, S')) : fI [20] [18, 19] S S' := by
  have hS : fI [20] [18, 19] S S := fI_rf
  refine (?_ : jf (fI [20] [18, 19] S) Prod.snd (f_X12_since S a1 a2)) _ h
  unfold f_X12_since
  refine f_bp (fun x1 => ?_)
  refine f_ite ?_ ?_
  · refine f_bp (fun x2 => ?_)
    refine f_ite ?_ ?_
    · refine v_X12_since_23 (fun S32 x33 hS32 => ?_) FU S (-1) 0 hS
      exact f_some hS32
    · exact f_some hS
  · exact f_some hS
abbrev rm_X12_without : Room := { frames := 6, cells := 0, slots := 0, locals := 136 }
theorem kY_X12_without : kY yX12_without cX12_without 4 (some .int) 3 := ⟨kw_1_13, kw_8_18, by decide, by decide, by decide +kernel⟩
def f_X12_without (S : MS) (a1 : Int32) (a2 : Int32) (a3 : Int32) : Option (Int32 × MS) :=
  bp (f_X12_isMark S a1) (fun x1 =>
  (if x1 = true then
  bp (f_X12_isScope a2) (fun x2 =>
  (if x2 = true then
  bp (f_X12_isIn a3 0 1) (fun x3 =>
  (if x3 = true then
  bp (f_X12_of S a1 0) (fun x4 =>
  chk 4 1177 (
  bp (f_X12_layChain S x4 a2 (S.2 0 (4 : Int32).toNatClampNeg)) (fun S5 =>
  bp (f_X12_noteLinks S5) (fun S6 =>
  lt (si S6 22 a1) fun S7 =>
  bp (f_X12_of S7 a1 0) (fun x8 =>
  chk 4 1177 (
  bp (f_X12_layChain S7 x8 a2 (S7.2 0 (4 : Int32).toNatClampNeg)) (fun S9 =>
  lt (si S9 22 (-1)) fun S10 =>
  bp (f_X12_countFresh S10) (fun S11 =>
  (if a3 = 0 then
  some (S11.1 24, S11)
 else
  bp (f_X12_recordNow S11) (fun x12 =>
  some (x12, S11)))))))))))
 else
  some ((-2), S)))
 else
  some ((-2), S)))
 else
  some ((-2), S)))
set_option maxRecDepth 100000 in
set_option maxHeartbeats 4000000 in
theorem c_X12_without {g : KG} {q : Nat → Nat} {S : MS} {a1 : Int32} {a2 : Int32} {a3 : Int32} {r : Int32} {S' : MS} (h : f_X12_without S a1 a2 a3 = some (r, S')) : ∀ l, kM l yX12_without cX12_without 4 (some .int) rm_X12_without g [.ref (q 0), .int a1, .int a2, .int a3] (mw g q S) (mw g q S') (some (.int r)) 0 0 := by
  refine k_open_i (own := "MarkChainsModel") (by decide) rfl (Nat.le_of_ble_eq_true rfl) (fun X C hR => ?_)
  refine (?_ : jJ X g ((r, S') : Int32 × MS) (mw g q S) 0 0 0 [(0, .ref (q 0)), (1, .int a1), (2, .int a2), (3, .int a3)] [] (f_X12_without S a1 a2 a3)) h
  unfold f_X12_without
  refine r_aload_n (pc := 0) C dX12_without_0 0 rfl ?_
  refine r_iload_n (pc := 1) C dX12_without_1 1 rfl ?_
  refine r_cVpz (As := [.int a1]) (st := []) (pc := 2) C (fun _ h => c_X12_isMark h) kY_X12_isMark kw_7_11 kw_0_60 kw_7_9 rfl ⟨Nat.le_of_ble_eq_true rfl, Nat.le_of_ble_eq_true rfl⟩ rfl rfl ⟨Nat.zero_le _, Nat.zero_le _⟩ 0 rfl rfl rfl (Nat.le_of_ble_eq_true rfl) dX12_without_2 (fun x1 => ?_)
  refine r_ifb_eq 24 (pc := 5) C dX12_without_5 (by decide) ?_ ?_
  · refine r_bipush (pc := 24) C dX12_without_24 (v := (-2)) (by decide) ?_
    exact r_retWI (wf := mw g q) hR (pc := 26) dX12_without_26
  · refine r_iload_n (pc := 8) C dX12_without_8 2 rfl ?_
    refine r_cSpz (As := [.int a2]) (st := []) (pc := 9) C (fun _ h => c_X12_isScope h) kY_X12_isScope kw_7_90 kw_7_89 rfl ⟨Nat.le_of_ble_eq_true rfl, Nat.le_of_ble_eq_true rfl⟩ rfl rfl ⟨Nat.zero_le _, Nat.zero_le _⟩ rfl (Nat.le_of_ble_eq_true rfl) dX12_without_9 (fun x2 => ?_)
    refine r_ifb_eq 24 (pc := 12) C dX12_without_12 (by decide) ?_ ?_
    · refine r_bipush (pc := 24) C dX12_without_24 (v := (-2)) (by decide) ?_
      exact r_retWI (wf := mw g q) hR (pc := 26) dX12_without_26
    · refine r_iload_n (pc := 15) C dX12_without_15 3 rfl ?_
      refine r_iconst (pc := 16) C dX12_without_16 (v := 0) (by decide) ?_
      refine r_iconst (pc := 17) C dX12_without_17 (v := 1) (by decide) ?_
      refine r_cSpz (As := [.int a3, .int 0, .int 1]) (st := []) (pc := 18) C (fun _ h => c_X12_isIn h) kY_X12_isIn kw_6_124 kw_6_123 rfl ⟨Nat.le_of_ble_eq_true rfl, Nat.le_of_ble_eq_true rfl⟩ rfl rfl ⟨Nat.zero_le _, Nat.zero_le _⟩ rfl (Nat.le_of_ble_eq_true rfl) dX12_without_18 (fun x3 => ?_)
      refine r_ifb_ne 27 (pc := 21) C dX12_without_21 (by decide) ?_ ?_
      · refine r_aload_n (pc := 27) C dX12_without_27 0 rfl ?_
        refine r_aload_n (pc := 28) C dX12_without_28 0 rfl ?_
        refine r_iload_n (pc := 29) C dX12_without_29 1 rfl ?_
        refine r_iconst (pc := 30) C dX12_without_30 (v := 0) (by decide) ?_
        refine r_cVpi (As := [.int a1, .int 0]) (st := [.ref (q 0)]) (pc := 31) C (fun _ h => c_X12_of h) kY_X12_of kw_7_27 kw_0_64 kw_7_25 rfl ⟨Nat.le_of_ble_eq_true rfl, Nat.le_of_ble_eq_true rfl⟩ rfl rfl ⟨Nat.zero_le _, Nat.zero_le _⟩ 0 rfl rfl rfl (Nat.le_of_ble_eq_true rfl) dX12_without_31 (fun x4 => ?_)
        refine r_iload_n (pc := 34) C dX12_without_34 2 rfl ?_
        refine r_aload_n (pc := 35) C dX12_without_35 0 rfl ?_
        refine mg_all (pc := 36) C dX12_without_36 ?_
        refine r_iconst (pc := 39) C dX12_without_39 (v := 4) (by decide) ?_
        refine ml_all (pc := 40) C dX12_without_40 ?_
        refine r_cVwv (As := [.int x4, .int a2, .int (S.2 0 (4 : Int32).toNatClampNeg)]) (st := []) (wf := mw g q) (pc := 41) C (fun _ h => c_X12_layChain h) kY_X12_layChain kw_7_106 kw_0_72 kw_7_104 rfl ⟨Nat.le_of_ble_eq_true rfl, Nat.le_of_ble_eq_true rfl⟩ rfl rfl ⟨Nat.zero_le _, Nat.zero_le _⟩ 0 rfl rfl rfl (Nat.le_of_ble_eq_true rfl) dX12_without_41 (fun S5 => ?_)
        refine r_aload_n (pc := 44) C dX12_without_44 0 rfl ?_
        refine r_cVwv (As := []) (st := []) (wf := mw g q) (pc := 45) C (fun _ h => c_X12_noteLinks h) kY_X12_noteLinks kw_7_162 kw_0_80 kw_7_160 rfl ⟨Nat.le_of_ble_eq_true rfl, Nat.le_of_ble_eq_true rfl⟩ rfl rfl ⟨Nat.zero_le _, Nat.zero_le _⟩ 0 rfl rfl rfl (Nat.le_of_ble_eq_true rfl) dX12_without_45 (fun S6 => ?_)
        refine r_aload_n (pc := 48) C dX12_without_48 0 rfl ?_
        refine r_iload_n (pc := 49) C dX12_without_49 1 rfl ?_
        refine mp_left (pc := 50) C dX12_without_50 (fun S7 => ?_)
        refine r_aload_n (pc := 53) C dX12_without_53 0 rfl ?_
        refine r_aload_n (pc := 54) C dX12_without_54 0 rfl ?_
        refine r_iload_n (pc := 55) C dX12_without_55 1 rfl ?_
        refine r_iconst (pc := 56) C dX12_without_56 (v := 0) (by decide) ?_
        refine r_cVpi (As := [.int a1, .int 0]) (st := [.ref (q 0)]) (pc := 57) C (fun _ h => c_X12_of h) kY_X12_of kw_7_27 kw_0_64 kw_7_25 rfl ⟨Nat.le_of_ble_eq_true rfl, Nat.le_of_ble_eq_true rfl⟩ rfl rfl ⟨Nat.zero_le _, Nat.zero_le _⟩ 0 rfl rfl rfl (Nat.le_of_ble_eq_true rfl) dX12_without_57 (fun x8 => ?_)
        refine r_iload_n (pc := 60) C dX12_without_60 2 rfl ?_
        refine r_aload_n (pc := 61) C dX12_without_61 0 rfl ?_
        refine mg_all (pc := 62) C dX12_without_62 ?_
        refine r_iconst (pc := 65) C dX12_without_65 (v := 4) (by decide) ?_
        refine ml_all (pc := 66) C dX12_without_66 ?_
        refine r_cVwv (As := [.int x8, .int a2, .int (S7.2 0 (4 : Int32).toNatClampNeg)]) (st := []) (wf := mw g q) (pc := 67) C (fun _ h => c_X12_layChain h) kY_X12_layChain kw_7_106 kw_0_72 kw_7_104 rfl ⟨Nat.le_of_ble_eq_true rfl, Nat.le_of_ble_eq_true rfl⟩ rfl rfl ⟨Nat.zero_le _, Nat.zero_le _⟩ 0 rfl rfl rfl (Nat.le_of_ble_eq_true rfl) dX12_without_67 (fun S9 => ?_)
        refine r_aload_n (pc := 70) C dX12_without_70 0 rfl ?_
        refine r_iconst (pc := 71) C dX12_without_71 (v := (-1)) (by decide) ?_
        refine mp_left (pc := 72) C dX12_without_72 (fun S10 => ?_)
        refine r_aload_n (pc := 75) C dX12_without_75 0 rfl ?_
        refine r_cVwv (As := []) (st := []) (wf := mw g q) (pc := 76) C (fun _ h => c_X12_countFresh h) kY_X12_countFresh kw_7_170 kw_0_82 kw_7_168 rfl ⟨Nat.le_of_ble_eq_true rfl, Nat.le_of_ble_eq_true rfl⟩ rfl rfl ⟨Nat.zero_le _, Nat.zero_le _⟩ 0 rfl rfl rfl (Nat.le_of_ble_eq_true rfl) dX12_without_76 (fun S11 => ?_)
        refine r_iload_n (pc := 79) C dX12_without_79 3 rfl ?_
        refine r_if_ne 90 (pc := 80) C dX12_without_80 (by decide) ?_ ?_
        · refine r_aload_n (pc := 90) C dX12_without_90 0 rfl ?_
          refine r_cVpi (As := []) (st := []) (pc := 91) C (fun _ h => c_X12_recordNow h) kY_X12_recordNow kw_7_126 kw_0_76 kw_7_124 rfl ⟨Nat.le_of_ble_eq_true rfl, Nat.le_of_ble_eq_true rfl⟩ rfl rfl ⟨Nat.zero_le _, Nat.zero_le _⟩ 0 rfl rfl rfl (Nat.le_of_ble_eq_true rfl) dX12_without_91 (fun x12 => ?_)
          exact r_retWI (wf := mw g q) hR (pc := 94) dX12_without_94
        · refine r_aload_n (pc := 83) C dX12_without_83 0 rfl ?_
          refine mg_freshMany (pc := 84) C dX12_without_84 ?_
          refine r_goto 94 (pc := 87) C dX12_without_87 (by decide) ?_
          exact r_retWI (wf := mw g q) hR (pc := 94) dX12_without_94
      · refine r_bipush (pc := 24) C dX12_without_24 (v := (-2)) (by decide) ?_
        exact r_retWI (wf := mw g q) hR (pc := 26) dX12_without_26
set_option maxRecDepth 100000 in
theorem w_X12_without {S : MS} {a1 : Int32} {a2 : Int32} {a3 : Int32} {r : Int32} {S' : MS} (h : f_X12_without S a1 a2 a3 = some (r, S')) : fI [20, 22, 24, 25] [18, 19, 23] S S' := by
  have hS : fI [20, 22, 24, 25] [18, 19, 23] S S := fI_rf
  refine (?_ : jf (fI [20, 22, 24, 25] [18, 19, 23] S) Prod.snd (f_X12_without S a1 a2 a3)) _ h
  unfold f_X12_without
  refine f_bp (fun x1 => ?_)
  refine f_ite ?_ ?_
  · refine f_bp (fun x2 => ?_)
    refine f_ite ?_ ?_
    · refine f_bp (fun x3 => ?_)
      refine f_ite ?_ ?_
      · refine f_bp (fun x4 => ?_)
        refine f_chk ?_
        refine f_bpS (fun _ h => fI_tr hS (w_X12_layChain h) (by decide) (by decide)) (fun S5 hS5 => ?_)
        refine f_bpS (fun _ h => fI_tr hS5 (w_X12_noteLinks h) (by decide) (by decide)) (fun S6 hS6 => ?_)
        refine f_ltS (fI_si hS6 (by decide)) (fun S7 hS7 => ?_)
        refine f_bp (fun x8 => ?_)
        refine f_chk ?_
        refine f_bpS (fun _ h => fI_tr hS7 (w_X12_layChain h) (by decide) (by decide)) (fun S9 hS9 => ?_)
        refine f_ltS (fI_si hS9 (by decide)) (fun S10 hS10 => ?_)
        refine f_bpS (fun _ h => fI_tr hS10 (w_X12_countFresh h) (by decide) (by decide)) (fun S11 hS11 => ?_)
        refine f_ite ?_ ?_
        · exact f_some hS11
        · refine f_bp (fun x12 => ?_)
          exact f_some hS11
      · exact f_some hS
    · exact f_some hS
  · exact f_some hS
abbrev rm_X12_personal : Room := { frames := 5, cells := 0, slots := 0, locals := 111 }
theorem kY_X12_personal : kY yX12_personal cX12_personal 6 (some .int) 3 := ⟨kw_1_13, kw_8_22, by decide, by decide, by decide +kernel⟩
def L_X12_personal_53 (c1 : Int32) (c2 : Int32) (c4 : Int32) (k10 : MS → Option (Int32 × MS)) : Nat → MS → Int32 → Option (Int32 × MS) := lo2 fun rec8 S7 x6 =>
  (if c4 ≤ x6 then
  k10 S7
 else
  chk x6 60 (
  bp (f_X12_of S7 (S7.2 18 x6.toNatClampNeg) 1) (fun x12 =>
  (if x12 = c1 then
  jn0 (chk x6 60 (
  chk (S7.1 20) 60 (lt (sa S7 19 (upd (S7.2 19) (S7.1 20).toNatClampNeg (S7.2 18 x6.toNatClampNeg))) fun S14 =>
  lt (si S14 20 ((S14.1 20) + 1)) fun S15 =>
  lt (x6 + 1) fun x16 =>
  rec8 S15 x16))) (fun k17 =>
  (if (S7.1 20) ≤ 0 then
  k17
 else
  chk x6 60 (
  bp (f_X12_of S7 (S7.2 18 x6.toNatClampNeg) 5) (fun x19 =>
  bp (f_X12_value S7 ((S7.1 20) - 1)) (fun x20 =>
  bp (f_X12_isBetter S7 c2 x19 x20) (fun x21 =>
  (if x21 = true then
  k17
 else
  lt (x6 + 1) fun x22 =>
  rec8 S7 x22)))))))
 else
  lt (x6 + 1) fun x13 =>
  rec8 S7 x13))))
set_option maxRecDepth 100000 in
set_option maxHeartbeats 4000000 in
theorem l_X12_personal_53 {X : KX} {g : KG} {q : Nat → Nat} {res : Int32 × MS} (C : kC X g cX12_personal "MarkChainsModel" rm_X12_personal 6) (hR : ∀ (pc : Nat) (lv : List (Nat × Value)), decode cX12_personal pc = .ok (.ireturn, 1) → jW X g (mw g q res.2) 0 0 pc lv [.int res.1]) (c1 : Int32) (c2 : Int32) (c3 : Int32) (c4 : Int32) (k10 : MS → Option (Int32 × MS)) (hk11 : ∀ (S23 : MS), jJ X g res (mw g q S23) 0 0 148 [(0, .ref (q 0)), (3, .int c3)] [] (k10 S23)) : ∀ (n : Nat) (S7 : MS) (x6 : Int32), jJ X g res (mw g q S7) 0 0 53 [(0, .ref (q 0)), (1, .int c1), (2, .int c2), (3, .int c3), (4, .int c4), (5, .int x6)] [] (L_X12_personal_53 c1 c2 c4 k10 n S7 x6) := by
  refine r_lo2 (fun S7 x6 => mw g q S7) (fun S7 x6 => [(0, .ref (q 0)), (1, .int c1), (2, .int c2), (3, .int c3), (4, .int c4), (5, .int x6)]) (fun rec8 ih9 S7 x6 => ?_)
  refine r_iload (pc := 53) C dX12_personal_53 5 rfl ?_
  refine r_iload (pc := 55) C dX12_personal_55 4 rfl ?_
  refine r_icmp_ge 148 (pc := 57) C dX12_personal_57 (by decide) ?_ ?_
  · refine r_sub (lv' := [(0, .ref (q 0)), (3, .int c3)]) [0, 3] rfl ?_
    exact hk11 S7
  · refine r_aload_n (pc := 60) C dX12_personal_60 0 rfl ?_
    refine r_aload_n (pc := 61) C dX12_personal_61 0 rfl ?_
    refine mg_order (pc := 62) C dX12_personal_62 ?_
    refine r_iload (pc := 65) C dX12_personal_65 5 rfl ?_
    refine ml_order (pc := 67) C dX12_personal_67 ?_
    refine r_iconst (pc := 68) C dX12_personal_68 (v := 1) (by decide) ?_
    refine r_cVpi (As := [.int (S7.2 18 x6.toNatClampNeg), .int 1]) (st := []) (pc := 69) C (fun _ h => c_X12_of h) kY_X12_of kw_7_27 kw_0_64 kw_7_25 rfl ⟨Nat.le_of_ble_eq_true rfl, Nat.le_of_ble_eq_true rfl⟩ rfl rfl ⟨Nat.zero_le _, Nat.zero_le _⟩ 0 rfl rfl rfl (Nat.le_of_ble_eq_true rfl) dX12_personal_69 (fun x12 => ?_)
    refine r_iload_n (pc := 72) C dX12_personal_72 1 rfl ?_
    refine r_icmp_ne 142 (pc := 73) C dX12_personal_73 (by decide) ?_ ?_
    · refine r_iinc (pc := 142) C dX12_personal_142 (v := 1) (lv' := fun x13 => [(0, .ref (q 0)), (1, .int c1), (2, .int c2), (3, .int c3), (4, .int c4), (5, .int x13)]) 5 rfl (by decide) (by decide) [1, 2, 3, 4, 5, 0] (fun _ => rfl) (fun x13 => ?_)
      refine r_goto 53 (pc := 145) C dX12_personal_145 (by decide) ?_
      exact ih9 S7 x13
    · refine r_aload_n (pc := 76) C dX12_personal_76 0 rfl ?_
      refine mg_links (pc := 77) C dX12_personal_77 ?_
      refine r_jn0 116 (mw g q S7) ([(0, .ref (q 0)), (1, .int c1), (2, .int c2), (3, .int c3), (4, .int c4), (5, .int x6)]) ([]) ?_ (fun k17 hk18 => ?_)
      · refine r_aload_n (pc := 116) C dX12_personal_116 0 rfl ?_
        refine mg_link (pc := 117) C dX12_personal_117 ?_
        refine r_aload_n (pc := 120) C dX12_personal_120 0 rfl ?_
        refine mg_links (pc := 121) C dX12_personal_121 ?_
        refine r_aload_n (pc := 124) C dX12_personal_124 0 rfl ?_
        refine mg_order (pc := 125) C dX12_personal_125 ?_
        refine r_iload (pc := 128) C dX12_personal_128 5 rfl ?_
        refine ml_order (pc := 130) C dX12_personal_130 ?_
        refine ms_link (pc := 131) C dX12_personal_131 (fun S14 => ?_)
        refine r_aload_n (pc := 132) C dX12_personal_132 0 rfl ?_
        refine r_dup (pc := 133) C dX12_personal_133 rfl ?_
        refine mg_links (pc := 134) C dX12_personal_134 ?_
        refine r_iconst (pc := 137) C dX12_personal_137 (v := 1) (by decide) ?_
        refine r_iadd (pc := 138) C dX12_personal_138 ?_
        refine mp_links (pc := 139) C dX12_personal_139 (fun S15 => ?_)
        refine r_iinc (pc := 142) C dX12_personal_142 (v := 1) (lv' := fun x16 => [(0, .ref (q 0)), (1, .int c1), (2, .int c2), (3, .int c3), (4, .int c4), (5, .int x16)]) 5 rfl (by decide) (by decide) [1, 2, 3, 4, 5, 0] (fun _ => rfl) (fun x16 => ?_)
        refine r_goto 53 (pc := 145) C dX12_personal_145 (by decide) ?_
        exact ih9 S15 x16
      · refine r_if_le 116 (pc := 80) C dX12_personal_80 (by decide) ?_ ?_
        · exact hk18
        · refine r_aload_n (pc := 83) C dX12_personal_83 0 rfl ?_
          refine r_iload_n (pc := 84) C dX12_personal_84 2 rfl ?_
          refine r_aload_n (pc := 85) C dX12_personal_85 0 rfl ?_
          refine r_aload_n (pc := 86) C dX12_personal_86 0 rfl ?_
          refine mg_order (pc := 87) C dX12_personal_87 ?_
          refine r_iload (pc := 90) C dX12_personal_90 5 rfl ?_
          refine ml_order (pc := 92) C dX12_personal_92 ?_
          refine r_iconst (pc := 93) C dX12_personal_93 (v := 5) (by decide) ?_
          refine r_cVpi (As := [.int (S7.2 18 x6.toNatClampNeg), .int 5]) (st := [.int c2, .ref (q 0)]) (pc := 94) C (fun _ h => c_X12_of h) kY_X12_of kw_7_27 kw_0_64 kw_7_25 rfl ⟨Nat.le_of_ble_eq_true rfl, Nat.le_of_ble_eq_true rfl⟩ rfl rfl ⟨Nat.zero_le _, Nat.zero_le _⟩ 0 rfl rfl rfl (Nat.le_of_ble_eq_true rfl) dX12_personal_94 (fun x19 => ?_)
          refine r_aload_n (pc := 97) C dX12_personal_97 0 rfl ?_
          refine r_aload_n (pc := 98) C dX12_personal_98 0 rfl ?_
          refine mg_links (pc := 99) C dX12_personal_99 ?_
          refine r_iconst (pc := 102) C dX12_personal_102 (v := 1) (by decide) ?_
          refine r_isub (pc := 103) C dX12_personal_103 ?_
          refine r_cVpi (As := [.int ((S7.1 20) - 1)]) (st := [.int x19, .int c2, .ref (q 0)]) (pc := 104) C (fun _ h => c_X12_value h) kY_X12_value kw_7_130 kw_0_77 kw_7_128 rfl ⟨Nat.le_of_ble_eq_true rfl, Nat.le_of_ble_eq_true rfl⟩ rfl rfl ⟨Nat.zero_le _, Nat.zero_le _⟩ 0 rfl rfl rfl (Nat.le_of_ble_eq_true rfl) dX12_personal_104 (fun x20 => ?_)
          refine r_cVpz (As := [.int c2, .int x19, .int x20]) (st := []) (pc := 107) C (fun _ h => c_X12_isBetter h) kY_X12_isBetter kw_7_118 kw_0_75 kw_7_116 rfl ⟨Nat.le_of_ble_eq_true rfl, Nat.le_of_ble_eq_true rfl⟩ rfl rfl ⟨Nat.zero_le _, Nat.zero_le _⟩ 0 rfl rfl rfl (Nat.le_of_ble_eq_true rfl) dX12_personal_107 (fun x21 => ?_)
          refine r_ifb_ne 116 (pc := 110) C dX12_personal_110 (by decide) ?_ ?_
          · exact hk18
          · refine r_goto 142 (pc := 113) C dX12_personal_113 (by decide) ?_
            refine r_iinc (pc := 142) C dX12_personal_142 (v := 1) (lv' := fun x22 => [(0, .ref (q 0)), (1, .int c1), (2, .int c2), (3, .int c3), (4, .int c4), (5, .int x22)]) 5 rfl (by decide) (by decide) [1, 2, 3, 4, 5, 0] (fun _ => rfl) (fun x22 => ?_)
            refine r_goto 53 (pc := 145) C dX12_personal_145 (by decide) ?_
            exact ih9 S7 x22
set_option maxRecDepth 100000 in
theorem v_X12_personal_53 {S0 : MS} {c1 : Int32} {c2 : Int32} {c4 : Int32} {k10 : MS → Option (Int32 × MS)} (hk11 : ∀ (S23 : MS), (fI [20] [18, 19] S0) S23 → jf (fI [20] [18, 19] S0) Prod.snd (k10 S23)) : ∀ (n : Nat) (S7 : MS) (x6 : Int32), (fI [20] [18, 19] S0) S7 → jf (fI [20] [18, 19] S0) Prod.snd (L_X12_personal_53 c1 c2 c4 k10 n S7 x6) := by
  refine f_lo2 (I := (fI [20] [18, 19] S0)) (fun S7 x6 => S7) (fun rec8 ih9 S7 x6 hS7 => ?_)
  refine f_ite ?_ ?_
  · exact hk11 S7 hS7
  · refine f_chk ?_
    refine f_bp (fun x12 => ?_)
    refine f_ite ?_ ?_
    · refine f_jm0 hS7 (fun  hS7 => ?_) (fun k17 hk18 => ?_)
      · refine f_chk ?_
        refine f_chk (f_ltS (fI_sa hS7 (by decide)) (fun S14 hS14 => ?_))
        refine f_ltS (fI_si hS14 (by decide)) (fun S15 hS15 => ?_)
        refine f_lt (fun x16 => ?_)
        exact ih9 S15 x16 hS15
      · refine f_ite ?_ ?_
        · exact hk18 hS7
        · refine f_chk ?_
          refine f_bp (fun x19 => ?_)
          refine f_bp (fun x20 => ?_)
          refine f_bp (fun x21 => ?_)
          refine f_ite ?_ ?_
          · exact hk18 hS7
          · refine f_lt (fun x22 => ?_)
            exact ih9 S7 x22 hS7
    · refine f_lt (fun x13 => ?_)
      exact ih9 S7 x13 hS7
def f_X12_personal (S : MS) (a1 : Int32) (a2 : Int32) (a3 : Int32) : Option (Int32 × MS) :=
  bp (f_X12_isAthlete S a1) (fun x1 =>
  (if x1 = true then
  chk 0 1177 (
  bp (f_X12_isIn a2 0 ((S.2 0 (0 : Int32).toNatClampNeg) - 1)) (fun x2 =>
  (if x2 = true then
  chk 4 1177 (
  bp (f_X12_layOrder S a2 0 (S.2 0 (4 : Int32).toNatClampNeg)) (fun S3 =>
  lt (S3.1 20) fun x4 =>
  lt (si S3 20 0) fun S5 =>
  L_X12_personal_53 a1 a2 x4 (fun S24 =>
  (if a3 = (-1) then
  some (S24.1 20, S24)
 else
  bp (f_X12_isIn a3 0 ((S24.1 20) - 1)) (fun x25 =>
  (if x25 = true then
  chk a3 60 (
  some (S24.2 19 a3.toNatClampNeg, S24))
 else
  some ((-2), S24))))) FU S5 0))
 else
  some ((-2), S))))
 else
  some ((-2), S)))
set_option maxRecDepth 100000 in
set_option maxHeartbeats 4000000 in
theorem c_X12_personal {g : KG} {q : Nat → Nat} {S : MS} {a1 : Int32} {a2 : Int32} {a3 : Int32} {r : Int32} {S' : MS} (h : f_X12_personal S a1 a2 a3 = some (r, S')) : ∀ l, kM l yX12_personal cX12_personal 6 (some .int) rm_X12_personal g [.ref (q 0), .int a1, .int a2, .int a3] (mw g q S) (mw g q S') (some (.int r)) 0 0 := by
  refine k_open_i (own := "MarkChainsModel") (by decide) rfl (Nat.le_of_ble_eq_true rfl) (fun X C hR => ?_)
  refine (?_ : jJ X g ((r, S') : Int32 × MS) (mw g q S) 0 0 0 [(0, .ref (q 0)), (1, .int a1), (2, .int a2), (3, .int a3)] [] (f_X12_personal S a1 a2 a3)) h
  unfold f_X12_personal
  refine r_aload_n (pc := 0) C dX12_personal_0 0 rfl ?_
  refine r_iload_n (pc := 1) C dX12_personal_1 1 rfl ?_
  refine r_cVpz (As := [.int a1]) (st := []) (pc := 2) C (fun _ h => c_X12_isAthlete h) kY_X12_isAthlete kw_7_75 kw_0_69 kw_7_73 rfl ⟨Nat.le_of_ble_eq_true rfl, Nat.le_of_ble_eq_true rfl⟩ rfl rfl ⟨Nat.zero_le _, Nat.zero_le _⟩ 0 rfl rfl rfl (Nat.le_of_ble_eq_true rfl) dX12_personal_2 (fun x1 => ?_)
  refine r_ifb_eq 24 (pc := 5) C dX12_personal_5 (by decide) ?_ ?_
  · refine r_bipush (pc := 24) C dX12_personal_24 (v := (-2)) (by decide) ?_
    exact r_retWI (wf := mw g q) hR (pc := 26) dX12_personal_26
  · refine r_iload_n (pc := 8) C dX12_personal_8 2 rfl ?_
    refine r_iconst (pc := 9) C dX12_personal_9 (v := 0) (by decide) ?_
    refine r_aload_n (pc := 10) C dX12_personal_10 0 rfl ?_
    refine mg_all (pc := 11) C dX12_personal_11 ?_
    refine r_iconst (pc := 14) C dX12_personal_14 (v := 0) (by decide) ?_
    refine ml_all (pc := 15) C dX12_personal_15 ?_
    refine r_iconst (pc := 16) C dX12_personal_16 (v := 1) (by decide) ?_
    refine r_isub (pc := 17) C dX12_personal_17 ?_
    refine r_cSpz (As := [.int a2, .int 0, .int ((S.2 0 (0 : Int32).toNatClampNeg) - 1)]) (st := []) (pc := 18) C (fun _ h => c_X12_isIn h) kY_X12_isIn kw_6_124 kw_6_123 rfl ⟨Nat.le_of_ble_eq_true rfl, Nat.le_of_ble_eq_true rfl⟩ rfl rfl ⟨Nat.zero_le _, Nat.zero_le _⟩ rfl (Nat.le_of_ble_eq_true rfl) dX12_personal_18 (fun x2 => ?_)
    refine r_ifb_ne 27 (pc := 21) C dX12_personal_21 (by decide) ?_ ?_
    · refine r_aload_n (pc := 27) C dX12_personal_27 0 rfl ?_
      refine r_iload_n (pc := 28) C dX12_personal_28 2 rfl ?_
      refine r_iconst (pc := 29) C dX12_personal_29 (v := 0) (by decide) ?_
      refine r_aload_n (pc := 30) C dX12_personal_30 0 rfl ?_
      refine mg_all (pc := 31) C dX12_personal_31 ?_
      refine r_iconst (pc := 34) C dX12_personal_34 (v := 4) (by decide) ?_
      refine ml_all (pc := 35) C dX12_personal_35 ?_
      refine r_cVwv (As := [.int a2, .int 0, .int (S.2 0 (4 : Int32).toNatClampNeg)]) (st := []) (wf := mw g q) (pc := 36) C (fun _ h => c_X12_layOrder h) kY_X12_layOrder kw_7_110 kw_0_73 kw_7_108 rfl ⟨Nat.le_of_ble_eq_true rfl, Nat.le_of_ble_eq_true rfl⟩ rfl rfl ⟨Nat.zero_le _, Nat.zero_le _⟩ 0 rfl rfl rfl (Nat.le_of_ble_eq_true rfl) dX12_personal_36 (fun S3 => ?_)
      refine r_aload_n (pc := 39) C dX12_personal_39 0 rfl ?_
      refine mg_links (pc := 40) C dX12_personal_40 ?_
      refine r_istoreV (pc := 43) C dX12_personal_43 (lv' := fun x4 => [(0, .ref (q 0)), (1, .int a1), (2, .int a2), (3, .int a3), (4, .int x4)]) (by decide) [1, 2, 3, 4, 0] (fun _ => rfl) (fun x4 => ?_)
      refine r_aload_n (pc := 45) C dX12_personal_45 0 rfl ?_
      refine r_iconst (pc := 46) C dX12_personal_46 (v := 0) (by decide) ?_
      refine mp_links (pc := 47) C dX12_personal_47 (fun S5 => ?_)
      refine r_iconst (pc := 50) C dX12_personal_50 (v := 0) (by decide) ?_
      refine r_istore (pc := 51) C dX12_personal_51 (lv' := [(0, .ref (q 0)), (1, .int a1), (2, .int a2), (3, .int a3), (4, .int x4), (5, .int 0)]) (by decide) [1, 2, 3, 4, 5, 0] rfl ?_
      refine l_X12_personal_53 C hR a1 a2 a3 x4 _ (fun S24 => ?_) FU S5 0
      refine r_iload_n (pc := 148) C dX12_personal_148 1 rfl ?_
      refine r_iconst (pc := 149) C dX12_personal_149 (v := (-1)) (by decide) ?_
      refine r_icmp_ne 160 (pc := 150) C dX12_personal_150 (by decide) ?_ ?_
      · refine r_iload_n (pc := 160) C dX12_personal_160 1 rfl ?_
        refine r_iconst (pc := 161) C dX12_personal_161 (v := 0) (by decide) ?_
        refine r_aload_n (pc := 162) C dX12_personal_162 0 rfl ?_
        refine mg_links (pc := 163) C dX12_personal_163 ?_
        refine r_iconst (pc := 166) C dX12_personal_166 (v := 1) (by decide) ?_
        refine r_isub (pc := 167) C dX12_personal_167 ?_
        refine r_cSpz (As := [.int a3, .int 0, .int ((S24.1 20) - 1)]) (st := []) (pc := 168) C (fun _ h => c_X12_isIn h) kY_X12_isIn kw_6_124 kw_6_123 rfl ⟨Nat.le_of_ble_eq_true rfl, Nat.le_of_ble_eq_true rfl⟩ rfl rfl ⟨Nat.zero_le _, Nat.zero_le _⟩ rfl (Nat.le_of_ble_eq_true rfl) dX12_personal_168 (fun x25 => ?_)
        refine r_ifb_eq 183 (pc := 171) C dX12_personal_171 (by decide) ?_ ?_
        · refine r_bipush (pc := 183) C dX12_personal_183 (v := (-2)) (by decide) ?_
          exact r_retWI (wf := mw g q) hR (pc := 185) dX12_personal_185
        · refine r_aload_n (pc := 174) C dX12_personal_174 0 rfl ?_
          refine mg_link (pc := 175) C dX12_personal_175 ?_
          refine r_iload_n (pc := 178) C dX12_personal_178 1 rfl ?_
          refine ml_link (pc := 179) C dX12_personal_179 ?_
          refine r_goto 185 (pc := 180) C dX12_personal_180 (by decide) ?_
          exact r_retWI (wf := mw g q) hR (pc := 185) dX12_personal_185
      · refine r_aload_n (pc := 153) C dX12_personal_153 0 rfl ?_
        refine mg_links (pc := 154) C dX12_personal_154 ?_
        refine r_goto 185 (pc := 157) C dX12_personal_157 (by decide) ?_
        exact r_retWI (wf := mw g q) hR (pc := 185) dX12_personal_185
    · refine r_bipush (pc := 24) C dX12_personal_24 (v := (-2)) (by decide) ?_
      exact r_retWI (wf := mw g q) hR (pc := 26) dX12_personal_26
set_option maxRecDepth 100000 in
theorem w_X12_personal {S : MS} {a1 : Int32} {a2 : Int32} {a3 : Int32} {r : Int32} {S' : MS} (h : f_X12_personal S a1 a2 a3 = some (r, S')) : fI [20] [18, 19] S S' := by
  have hS : fI [20] [18, 19] S S := fI_rf
  refine (?_ : jf (fI [20] [18, 19] S) Prod.snd (f_X12_personal S a1 a2 a3)) _ h
  unfold f_X12_personal
  refine f_bp (fun x1 => ?_)
  refine f_ite ?_ ?_
  · refine f_chk ?_
    refine f_bp (fun x2 => ?_)
    refine f_ite ?_ ?_
    · refine f_chk ?_
      refine f_bpS (fun _ h => fI_tr hS (w_X12_layOrder h) (by decide) (by decide)) (fun S3 hS3 => ?_)
      refine f_lt (fun x4 => ?_)
      refine f_ltS (fI_si hS3 (by decide)) (fun S5 hS5 => ?_)
      refine v_X12_personal_53 (fun S24 hS24 => ?_) FU S5 0 hS5
      refine f_ite ?_ ?_
      · exact f_some hS24
      · refine f_bp (fun x25 => ?_)
        refine f_ite ?_ ?_
        · refine f_chk ?_
          exact f_some hS24
        · exact f_some hS24
    · exact f_some hS
  · exact f_some hS
abbrev rm_X12_season : Room := { frames := 5, cells := 0, slots := 0, locals := 111 }
theorem kY_X12_season : kY yX12_season cX12_season 7 (some .int) 3 := ⟨kw_1_13, kw_8_26, by decide, by decide, by decide +kernel⟩
def L_X12_season_91 (c1 : Int32) (c5 : Int32) (k18 : MS → Int32 → Option (Int32 × MS)) : Nat → MS → Int32 → Option (Int32 × MS) := lo2 fun rec16 S15 x14 =>
  (if x14 ≤ 0 then
  k18 S15 x14
 else
  chk c5 60 (
  chk (x14 - 1) 60 (
  bp (f_X12_isFore S15 c1 (S15.2 18 c5.toNatClampNeg) (S15.2 19 (x14 - 1).toNatClampNeg)) (fun x20 =>
  (if x20 = true then
  chk (x14 - 1) 60 (
  chk x14 60 (lt (sa S15 19 (upd (S15.2 19) x14.toNatClampNeg (S15.2 19 (x14 - 1).toNatClampNeg))) fun S21 =>
  lt (x14 + (-1)) fun x22 =>
  rec16 S21 x22))
 else
  k18 S15 x14)))))
set_option maxRecDepth 100000 in
set_option maxHeartbeats 4000000 in
theorem l_X12_season_91 {X : KX} {g : KG} {q : Nat → Nat} {res : Int32 × MS} (C : kC X g cX12_season "MarkChainsModel" rm_X12_season 7) (hR : ∀ (pc : Nat) (lv : List (Nat × Value)), decode cX12_season pc = .ok (.ireturn, 1) → jW X g (mw g q res.2) 0 0 pc lv [.int res.1]) (c1 : Int32) (c2 : Int32) (c3 : Int32) (c4 : Int32) (c5 : Int32) (k18 : MS → Int32 → Option (Int32 × MS)) (hk19 : ∀ (S23 : MS) (x24 : Int32), jJ X g res (mw g q S23) 0 0 142 [(0, .ref (q 0)), (1, .int c1), (2, .int c2), (3, .int c3), (4, .int c4), (5, .int c5), (6, .int x24)] [] (k18 S23 x24)) : ∀ (n : Nat) (S15 : MS) (x14 : Int32), jJ X g res (mw g q S15) 0 0 91 [(0, .ref (q 0)), (1, .int c1), (2, .int c2), (3, .int c3), (4, .int c4), (5, .int c5), (6, .int x14)] [] (L_X12_season_91 c1 c5 k18 n S15 x14) := by
  refine r_lo2 (fun S15 x14 => mw g q S15) (fun S15 x14 => [(0, .ref (q 0)), (1, .int c1), (2, .int c2), (3, .int c3), (4, .int c4), (5, .int c5), (6, .int x14)]) (fun rec16 ih17 S15 x14 => ?_)
  refine r_iload (pc := 91) C dX12_season_91 6 rfl ?_
  refine r_if_le 142 (pc := 93) C dX12_season_93 (by decide) ?_ ?_
  · exact hk19 S15 x14
  · refine r_aload_n (pc := 96) C dX12_season_96 0 rfl ?_
    refine r_iload_n (pc := 97) C dX12_season_97 1 rfl ?_
    refine r_aload_n (pc := 98) C dX12_season_98 0 rfl ?_
    refine mg_order (pc := 99) C dX12_season_99 ?_
    refine r_iload (pc := 102) C dX12_season_102 5 rfl ?_
    refine ml_order (pc := 104) C dX12_season_104 ?_
    refine r_aload_n (pc := 105) C dX12_season_105 0 rfl ?_
    refine mg_link (pc := 106) C dX12_season_106 ?_
    refine r_iload (pc := 109) C dX12_season_109 6 rfl ?_
    refine r_iconst (pc := 111) C dX12_season_111 (v := 1) (by decide) ?_
    refine r_isub (pc := 112) C dX12_season_112 ?_
    refine ml_link (pc := 113) C dX12_season_113 ?_
    refine r_cVpz (As := [.int c1, .int (S15.2 18 c5.toNatClampNeg), .int (S15.2 19 (x14 - 1).toNatClampNeg)]) (st := []) (pc := 114) C (fun _ h => c_X12_isFore h) kY_X12_isFore kw_7_182 kw_0_84 kw_7_180 rfl ⟨Nat.le_of_ble_eq_true rfl, Nat.le_of_ble_eq_true rfl⟩ rfl rfl ⟨Nat.zero_le _, Nat.zero_le _⟩ 0 rfl rfl rfl (Nat.le_of_ble_eq_true rfl) dX12_season_114 (fun x20 => ?_)
    refine r_ifb_eq 142 (pc := 117) C dX12_season_117 (by decide) ?_ ?_
    · exact hk19 S15 x14
    · refine r_aload_n (pc := 120) C dX12_season_120 0 rfl ?_
      refine mg_link (pc := 121) C dX12_season_121 ?_
      refine r_iload (pc := 124) C dX12_season_124 6 rfl ?_
      refine r_aload_n (pc := 126) C dX12_season_126 0 rfl ?_
      refine mg_link (pc := 127) C dX12_season_127 ?_
      refine r_iload (pc := 130) C dX12_season_130 6 rfl ?_
      refine r_iconst (pc := 132) C dX12_season_132 (v := 1) (by decide) ?_
      refine r_isub (pc := 133) C dX12_season_133 ?_
      refine ml_link (pc := 134) C dX12_season_134 ?_
      refine ms_link (pc := 135) C dX12_season_135 (fun S21 => ?_)
      refine r_iinc (pc := 136) C dX12_season_136 (v := (-1)) (lv' := fun x22 => [(0, .ref (q 0)), (1, .int c1), (2, .int c2), (3, .int c3), (4, .int c4), (5, .int c5), (6, .int x22)]) 6 rfl (by decide) (by decide) [1, 2, 3, 4, 5, 6, 0] (fun _ => rfl) (fun x22 => ?_)
      refine r_goto 91 (pc := 139) C dX12_season_139 (by decide) ?_
      exact ih17 S21 x22
set_option maxRecDepth 100000 in
theorem v_X12_season_91 {S0 : MS} {c1 : Int32} {c5 : Int32} {k18 : MS → Int32 → Option (Int32 × MS)} (hk19 : ∀ (S23 : MS) (x24 : Int32), (fI [20] [18, 19] S0) S23 → jf (fI [20] [18, 19] S0) Prod.snd (k18 S23 x24)) : ∀ (n : Nat) (S15 : MS) (x14 : Int32), (fI [20] [18, 19] S0) S15 → jf (fI [20] [18, 19] S0) Prod.snd (L_X12_season_91 c1 c5 k18 n S15 x14) := by
  refine f_lo2 (I := (fI [20] [18, 19] S0)) (fun S15 x14 => S15) (fun rec16 ih17 S15 x14 hS15 => ?_)
  refine f_ite ?_ ?_
  · exact hk19 S15 x14 hS15
  · refine f_chk ?_
    refine f_chk ?_
    refine f_bp (fun x20 => ?_)
    refine f_ite ?_ ?_
    · refine f_chk ?_
      refine f_chk (f_ltS (fI_sa hS15 (by decide)) (fun S21 hS21 => ?_))
      refine f_lt (fun x22 => ?_)
      exact ih17 S21 x22 hS21
    · exact hk19 S15 x14 hS15
def L_X12_season_55 (c1 : Int32) (c2 : Int32) (c4 : Int32) (k10 : MS → Option (Int32 × MS)) : Nat → MS → Int32 → Option (Int32 × MS) := lo2 fun rec8 S7 x6 =>
  (if c4 ≤ x6 then
  k10 S7
 else
  chk x6 60 (
  bp (f_X12_of S7 (S7.2 18 x6.toNatClampNeg) 3) (fun x12 =>
  (if (x12 / 365) = c2 then
  lt (S7.1 20) fun x13 =>
  L_X12_season_91 c1 x6 (fun S25 x26 =>
  chk x6 60 (
  chk x26 60 (lt (sa S25 19 (upd (S25.2 19) x26.toNatClampNeg (S25.2 18 x6.toNatClampNeg))) fun S27 =>
  lt (si S27 20 ((S27.1 20) + 1)) fun S28 =>
  lt (x6 + 1) fun x29 =>
  rec8 S28 x29))) FU S7 x13
 else
  lt (x6 + 1) fun x30 =>
  rec8 S7 x30))))
set_option maxRecDepth 100000 in
set_option maxHeartbeats 4000000 in
theorem l_X12_season_55 {X : KX} {g : KG} {q : Nat → Nat} {res : Int32 × MS} (C : kC X g cX12_season "MarkChainsModel" rm_X12_season 7) (hR : ∀ (pc : Nat) (lv : List (Nat × Value)), decode cX12_season pc = .ok (.ireturn, 1) → jW X g (mw g q res.2) 0 0 pc lv [.int res.1]) (c1 : Int32) (c2 : Int32) (c3 : Int32) (c4 : Int32) (k10 : MS → Option (Int32 × MS)) (hk11 : ∀ (S31 : MS), jJ X g res (mw g q S31) 0 0 172 [(0, .ref (q 0)), (3, .int c3)] [] (k10 S31)) : ∀ (n : Nat) (S7 : MS) (x6 : Int32), jJ X g res (mw g q S7) 0 0 55 [(0, .ref (q 0)), (1, .int c1), (2, .int c2), (3, .int c3), (4, .int c4), (5, .int x6)] [] (L_X12_season_55 c1 c2 c4 k10 n S7 x6) := by
  refine r_lo2 (fun S7 x6 => mw g q S7) (fun S7 x6 => [(0, .ref (q 0)), (1, .int c1), (2, .int c2), (3, .int c3), (4, .int c4), (5, .int x6)]) (fun rec8 ih9 S7 x6 => ?_)
  refine r_iload (pc := 55) C dX12_season_55 5 rfl ?_
  refine r_iload (pc := 57) C dX12_season_57 4 rfl ?_
  refine r_icmp_ge 172 (pc := 59) C dX12_season_59 (by decide) ?_ ?_
  · refine r_sub (lv' := [(0, .ref (q 0)), (3, .int c3)]) [0, 3] rfl ?_
    exact hk11 S7
  · refine r_aload_n (pc := 62) C dX12_season_62 0 rfl ?_
    refine r_aload_n (pc := 63) C dX12_season_63 0 rfl ?_
    refine mg_order (pc := 64) C dX12_season_64 ?_
    refine r_iload (pc := 67) C dX12_season_67 5 rfl ?_
    refine ml_order (pc := 69) C dX12_season_69 ?_
    refine r_iconst (pc := 70) C dX12_season_70 (v := 3) (by decide) ?_
    refine r_cVpi (As := [.int (S7.2 18 x6.toNatClampNeg), .int 3]) (st := []) (pc := 71) C (fun _ h => c_X12_of h) kY_X12_of kw_7_27 kw_0_64 kw_7_25 rfl ⟨Nat.le_of_ble_eq_true rfl, Nat.le_of_ble_eq_true rfl⟩ rfl rfl ⟨Nat.zero_le _, Nat.zero_le _⟩ 0 rfl rfl rfl (Nat.le_of_ble_eq_true rfl) dX12_season_71 (fun x12 => ?_)
    refine r_sipush (pc := 74) C dX12_season_74 (v := 365) (by decide) ?_
    refine r_idiv (pc := 77) C dX12_season_77 (by decide) ?_
    refine r_iload_n (pc := 78) C dX12_season_78 2 rfl ?_
    refine r_icmp_eq 85 (pc := 79) C dX12_season_79 (by decide) ?_ ?_
    · refine r_aload_n (pc := 85) C dX12_season_85 0 rfl ?_
      refine mg_links (pc := 86) C dX12_season_86 ?_
      refine r_istoreV (pc := 89) C dX12_season_89 (lv' := fun x13 => [(0, .ref (q 0)), (1, .int c1), (2, .int c2), (3, .int c3), (4, .int c4), (5, .int x6), (6, .int x13)]) (by decide) [1, 2, 3, 4, 5, 6, 0] (fun _ => rfl) (fun x13 => ?_)
      refine l_X12_season_91 C hR c1 c2 c3 c4 x6 _ (fun S25 x26 => ?_) FU S7 x13
      refine r_aload_n (pc := 142) C dX12_season_142 0 rfl ?_
      refine mg_link (pc := 143) C dX12_season_143 ?_
      refine r_iload (pc := 146) C dX12_season_146 6 rfl ?_
      refine r_aload_n (pc := 148) C dX12_season_148 0 rfl ?_
      refine mg_order (pc := 149) C dX12_season_149 ?_
      refine r_iload (pc := 152) C dX12_season_152 5 rfl ?_
      refine ml_order (pc := 154) C dX12_season_154 ?_
      refine ms_link (pc := 155) C dX12_season_155 (fun S27 => ?_)
      refine r_aload_n (pc := 156) C dX12_season_156 0 rfl ?_
      refine r_dup (pc := 157) C dX12_season_157 rfl ?_
      refine mg_links (pc := 158) C dX12_season_158 ?_
      refine r_iconst (pc := 161) C dX12_season_161 (v := 1) (by decide) ?_
      refine r_iadd (pc := 162) C dX12_season_162 ?_
      refine mp_links (pc := 163) C dX12_season_163 (fun S28 => ?_)
      refine r_iinc (pc := 166) C dX12_season_166 (v := 1) (lv' := fun x29 => [(0, .ref (q 0)), (1, .int c1), (2, .int c2), (3, .int c3), (4, .int c4), (5, .int x29), (6, .int x26)]) 5 rfl (by decide) (by decide) [1, 2, 3, 4, 5, 0, 6] (fun _ => rfl) (fun x29 => ?_)
      refine r_goto 55 (pc := 169) C dX12_season_169 (by decide) ?_
      refine r_sub (lv' := [(0, .ref (q 0)), (1, .int c1), (2, .int c2), (3, .int c3), (4, .int c4), (5, .int x29)]) [0, 1, 2, 3, 4, 5] rfl ?_
      exact ih9 S28 x29
    · refine r_goto 166 (pc := 82) C dX12_season_82 (by decide) ?_
      refine r_iinc (pc := 166) C dX12_season_166 (v := 1) (lv' := fun x30 => [(0, .ref (q 0)), (1, .int c1), (2, .int c2), (3, .int c3), (4, .int c4), (5, .int x30)]) 5 rfl (by decide) (by decide) [1, 2, 3, 4, 5, 0] (fun _ => rfl) (fun x30 => ?_)
      refine r_goto 55 (pc := 169) C dX12_season_169 (by decide) ?_
      exact ih9 S7 x30
set_option maxRecDepth 100000 in
theorem v_X12_season_55 {S0 : MS} {c1 : Int32} {c2 : Int32} {c4 : Int32} {k10 : MS → Option (Int32 × MS)} (hk11 : ∀ (S31 : MS), (fI [20] [18, 19] S0) S31 → jf (fI [20] [18, 19] S0) Prod.snd (k10 S31)) : ∀ (n : Nat) (S7 : MS) (x6 : Int32), (fI [20] [18, 19] S0) S7 → jf (fI [20] [18, 19] S0) Prod.snd (L_X12_season_55 c1 c2 c4 k10 n S7 x6) := by
  refine f_lo2 (I := (fI [20] [18, 19] S0)) (fun S7 x6 => S7) (fun rec8 ih9 S7 x6 hS7 => ?_)
  refine f_ite ?_ ?_
  · exact hk11 S7 hS7
  · refine f_chk ?_
    refine f_bp (fun x12 => ?_)
    refine f_ite ?_ ?_
    · refine f_lt (fun x13 => ?_)
      refine v_X12_season_91 (fun S25 x26 hS25 => ?_) FU S7 x13 hS7
      refine f_chk ?_
      refine f_chk (f_ltS (fI_sa hS25 (by decide)) (fun S27 hS27 => ?_))
      refine f_ltS (fI_si hS27 (by decide)) (fun S28 hS28 => ?_)
      refine f_lt (fun x29 => ?_)
      exact ih9 S28 x29 hS28
    · refine f_lt (fun x30 => ?_)
      exact ih9 S7 x30 hS7
def f_X12_season (S : MS) (a1 : Int32) (a2 : Int32) (a3 : Int32) : Option (Int32 × MS) :=
  chk 0 1177 (
  bp (f_X12_isIn a1 0 ((S.2 0 (0 : Int32).toNatClampNeg) - 1)) (fun x1 =>
  (if x1 = true then
  bp (f_X12_isIn a2 0 54) (fun x2 =>
  (if x2 = true then
  chk 4 1177 (
  bp (f_X12_layOrder S a1 0 (S.2 0 (4 : Int32).toNatClampNeg)) (fun S3 =>
  lt (S3.1 20) fun x4 =>
  lt (si S3 20 0) fun S5 =>
  L_X12_season_55 a1 a2 x4 (fun S32 =>
  (if a3 = (-1) then
  some (S32.1 20, S32)
 else
  bp (f_X12_isIn a3 0 ((S32.1 20) - 1)) (fun x33 =>
  (if x33 = true then
  chk a3 60 (
  some (S32.2 19 a3.toNatClampNeg, S32))
 else
  some ((-2), S32))))) FU S5 0))
 else
  some ((-2), S)))
 else
  some ((-2), S))))
set_option maxRecDepth 100000 in
set_option maxHeartbeats 4000000 in
theorem c_X12_season {g : KG} {q : Nat → Nat} {S : MS} {a1 : Int32} {a2 : Int32} {a3 : Int32} {r : Int32} {S' : MS} (h : f_X12_season S a1 a2 a3 = some (r, S')) : ∀ l, kM l yX12_season cX12_season 7 (some .int) rm_X12_season g [.ref (q 0), .int a1, .int a2, .int a3] (mw g q S) (mw g q S') (some (.int r)) 0 0 := by
  refine k_open_i (own := "MarkChainsModel") (by decide) rfl (Nat.le_of_ble_eq_true rfl) (fun X C hR => ?_)
  refine (?_ : jJ X g ((r, S') : Int32 × MS) (mw g q S) 0 0 0 [(0, .ref (q 0)), (1, .int a1), (2, .int a2), (3, .int a3)] [] (f_X12_season S a1 a2 a3)) h
  unfold f_X12_season
  refine r_iload_n (pc := 0) C dX12_season_0 1 rfl ?_
  refine r_iconst (pc := 1) C dX12_season_1 (v := 0) (by decide) ?_
  refine r_aload_n (pc := 2) C dX12_season_2 0 rfl ?_
  refine mg_all (pc := 3) C dX12_season_3 ?_
  refine r_iconst (pc := 6) C dX12_season_6 (v := 0) (by decide) ?_
  refine ml_all (pc := 7) C dX12_season_7 ?_
  refine r_iconst (pc := 8) C dX12_season_8 (v := 1) (by decide) ?_
  refine r_isub (pc := 9) C dX12_season_9 ?_
  refine r_cSpz (As := [.int a1, .int 0, .int ((S.2 0 (0 : Int32).toNatClampNeg) - 1)]) (st := []) (pc := 10) C (fun _ h => c_X12_isIn h) kY_X12_isIn kw_6_124 kw_6_123 rfl ⟨Nat.le_of_ble_eq_true rfl, Nat.le_of_ble_eq_true rfl⟩ rfl rfl ⟨Nat.zero_le _, Nat.zero_le _⟩ rfl (Nat.le_of_ble_eq_true rfl) dX12_season_10 (fun x1 => ?_)
  refine r_ifb_eq 26 (pc := 13) C dX12_season_13 (by decide) ?_ ?_
  · refine r_bipush (pc := 26) C dX12_season_26 (v := (-2)) (by decide) ?_
    exact r_retWI (wf := mw g q) hR (pc := 28) dX12_season_28
  · refine r_iload_n (pc := 16) C dX12_season_16 2 rfl ?_
    refine r_iconst (pc := 17) C dX12_season_17 (v := 0) (by decide) ?_
    refine r_bipush (pc := 18) C dX12_season_18 (v := 54) (by decide) ?_
    refine r_cSpz (As := [.int a2, .int 0, .int 54]) (st := []) (pc := 20) C (fun _ h => c_X12_isIn h) kY_X12_isIn kw_6_124 kw_6_123 rfl ⟨Nat.le_of_ble_eq_true rfl, Nat.le_of_ble_eq_true rfl⟩ rfl rfl ⟨Nat.zero_le _, Nat.zero_le _⟩ rfl (Nat.le_of_ble_eq_true rfl) dX12_season_20 (fun x2 => ?_)
    refine r_ifb_ne 29 (pc := 23) C dX12_season_23 (by decide) ?_ ?_
    · refine r_aload_n (pc := 29) C dX12_season_29 0 rfl ?_
      refine r_iload_n (pc := 30) C dX12_season_30 1 rfl ?_
      refine r_iconst (pc := 31) C dX12_season_31 (v := 0) (by decide) ?_
      refine r_aload_n (pc := 32) C dX12_season_32 0 rfl ?_
      refine mg_all (pc := 33) C dX12_season_33 ?_
      refine r_iconst (pc := 36) C dX12_season_36 (v := 4) (by decide) ?_
      refine ml_all (pc := 37) C dX12_season_37 ?_
      refine r_cVwv (As := [.int a1, .int 0, .int (S.2 0 (4 : Int32).toNatClampNeg)]) (st := []) (wf := mw g q) (pc := 38) C (fun _ h => c_X12_layOrder h) kY_X12_layOrder kw_7_110 kw_0_73 kw_7_108 rfl ⟨Nat.le_of_ble_eq_true rfl, Nat.le_of_ble_eq_true rfl⟩ rfl rfl ⟨Nat.zero_le _, Nat.zero_le _⟩ 0 rfl rfl rfl (Nat.le_of_ble_eq_true rfl) dX12_season_38 (fun S3 => ?_)
      refine r_aload_n (pc := 41) C dX12_season_41 0 rfl ?_
      refine mg_links (pc := 42) C dX12_season_42 ?_
      refine r_istoreV (pc := 45) C dX12_season_45 (lv' := fun x4 => [(0, .ref (q 0)), (1, .int a1), (2, .int a2), (3, .int a3), (4, .int x4)]) (by decide) [1, 2, 3, 4, 0] (fun _ => rfl) (fun x4 => ?_)
      refine r_aload_n (pc := 47) C dX12_season_47 0 rfl ?_
      refine r_iconst (pc := 48) C dX12_season_48 (v := 0) (by decide) ?_
      refine mp_links (pc := 49) C dX12_season_49 (fun S5 => ?_)
      refine r_iconst (pc := 52) C dX12_season_52 (v := 0) (by decide) ?_
      refine r_istore (pc := 53) C dX12_season_53 (lv' := [(0, .ref (q 0)), (1, .int a1), (2, .int a2), (3, .int a3), (4, .int x4), (5, .int 0)]) (by decide) [1, 2, 3, 4, 5, 0] rfl ?_
      refine l_X12_season_55 C hR a1 a2 a3 x4 _ (fun S32 => ?_) FU S5 0
      refine r_iload_n (pc := 172) C dX12_season_172 1 rfl ?_
      refine r_iconst (pc := 173) C dX12_season_173 (v := (-1)) (by decide) ?_
      refine r_icmp_ne 184 (pc := 174) C dX12_season_174 (by decide) ?_ ?_
      · refine r_iload_n (pc := 184) C dX12_season_184 1 rfl ?_
        refine r_iconst (pc := 185) C dX12_season_185 (v := 0) (by decide) ?_
        refine r_aload_n (pc := 186) C dX12_season_186 0 rfl ?_
        refine mg_links (pc := 187) C dX12_season_187 ?_
        refine r_iconst (pc := 190) C dX12_season_190 (v := 1) (by decide) ?_
        refine r_isub (pc := 191) C dX12_season_191 ?_
        refine r_cSpz (As := [.int a3, .int 0, .int ((S32.1 20) - 1)]) (st := []) (pc := 192) C (fun _ h => c_X12_isIn h) kY_X12_isIn kw_6_124 kw_6_123 rfl ⟨Nat.le_of_ble_eq_true rfl, Nat.le_of_ble_eq_true rfl⟩ rfl rfl ⟨Nat.zero_le _, Nat.zero_le _⟩ rfl (Nat.le_of_ble_eq_true rfl) dX12_season_192 (fun x33 => ?_)
        refine r_ifb_eq 207 (pc := 195) C dX12_season_195 (by decide) ?_ ?_
        · refine r_bipush (pc := 207) C dX12_season_207 (v := (-2)) (by decide) ?_
          exact r_retWI (wf := mw g q) hR (pc := 209) dX12_season_209
        · refine r_aload_n (pc := 198) C dX12_season_198 0 rfl ?_
          refine mg_link (pc := 199) C dX12_season_199 ?_
          refine r_iload_n (pc := 202) C dX12_season_202 1 rfl ?_
          refine ml_link (pc := 203) C dX12_season_203 ?_
          refine r_goto 209 (pc := 204) C dX12_season_204 (by decide) ?_
          exact r_retWI (wf := mw g q) hR (pc := 209) dX12_season_209
      · refine r_aload_n (pc := 177) C dX12_season_177 0 rfl ?_
        refine mg_links (pc := 178) C dX12_season_178 ?_
        refine r_goto 209 (pc := 181) C dX12_season_181 (by decide) ?_
        exact r_retWI (wf := mw g q) hR (pc := 209) dX12_season_209
    · refine r_bipush (pc := 26) C dX12_season_26 (v := (-2)) (by decide) ?_
      exact r_retWI (wf := mw g q) hR (pc := 28) dX12_season_28
set_option maxRecDepth 100000 in
theorem w_X12_season {S : MS} {a1 : Int32} {a2 : Int32} {a3 : Int32} {r : Int32} {S' : MS} (h : f_X12_season S a1 a2 a3 = some (r, S')) : fI [20] [18, 19] S S' := by
  have hS : fI [20] [18, 19] S S := fI_rf
  refine (?_ : jf (fI [20] [18, 19] S) Prod.snd (f_X12_season S a1 a2 a3)) _ h
  unfold f_X12_season
  refine f_chk ?_
  refine f_bp (fun x1 => ?_)
  refine f_ite ?_ ?_
  · refine f_bp (fun x2 => ?_)
    refine f_ite ?_ ?_
    · refine f_chk ?_
      refine f_bpS (fun _ h => fI_tr hS (w_X12_layOrder h) (by decide) (by decide)) (fun S3 hS3 => ?_)
      refine f_lt (fun x4 => ?_)
      refine f_ltS (fI_si hS3 (by decide)) (fun S5 hS5 => ?_)
      refine v_X12_season_55 (fun S32 hS32 => ?_) FU S5 0 hS5
      refine f_ite ?_ ?_
      · exact f_some hS32
      · refine f_bp (fun x33 => ?_)
        refine f_ite ?_ ?_
        · refine f_chk ?_
          exact f_some hS32
        · exact f_some hS32
    · exact f_some hS
  · exact f_some hS
