abbrev rm_X12_isWithin : Room := { frames := 3, cells := 0, slots := 0, locals := 63 }
theorem kY_X12_isWithin : kY yX12_isWithin cX12_isWithin 4 (some .boolean) 2 := ⟨kw_1_13, kw_7_95, by decide, by decide, by decide +kernel⟩
def f_X12_isWithin (S : MS) (a1 : Int32) (a2 : Int32) : Option (Bool) :=
  (if a2 = 0 then
  some true
 else
  (if 7 ≤ a2 then
  (if 15 ≤ a2 then
  bp (f_X12_ageOf S a1) (fun x1 =>
  (if 18 ≤ a2 then
  (if x1 < (35 + (5 * (a2 - 18))) then
  some false
 else
  some true)
 else
  jn1 (fun (x2 : Int32) =>
  (if x2 ≤ x1 then
  some false
 else
  some true)) (fun k3 =>
  (if a2 = 15 then
  k3 18
 else
  (if a2 = 16 then
  k3 20
 else
  k3 23)))))
 else
  bp (f_X12_of S a1 2) (fun x5 =>
  (if x5 = (a2 - 7) then
  some true
 else
  some false)))
 else
  bp (f_X12_of S a1 1) (fun x6 =>
  chk ((33 + (2 * x6)) + 1) 1177 (
  (if (S.2 0 ((33 + (2 * x6)) + 1).toNatClampNeg) = (a2 - 1) then
  some true
 else
  some false)))))
set_option maxRecDepth 100000 in
set_option maxHeartbeats 4000000 in
theorem c_X12_isWithin {g : KG} {q : Nat → Nat} {S : MS} {a1 : Int32} {a2 : Int32} {r : Bool} (h : f_X12_isWithin S a1 a2 = some r) : ∀ l, kM l yX12_isWithin cX12_isWithin 4 (some .boolean) rm_X12_isWithin g [.ref (q 0), .int a1, .int a2] (mw g q S) (mw g q S) (some (.int (b2 r))) 0 0 := by
  refine k_open_z (own := "MarkChainsModel") (by decide) rfl (Nat.le_of_ble_eq_true rfl) (fun X C hR => ?_)
  refine (?_ : jJ X g (r : Bool) (mw g q S) 0 0 0 [(0, .ref (q 0)), (1, .int a1), (2, .int a2)] [] (f_X12_isWithin S a1 a2)) h
  unfold f_X12_isWithin
  refine r_iload_n (pc := 0) C dX12_isWithin_0 2 rfl ?_
  refine r_if_ne 6 (pc := 1) C dX12_isWithin_1 (by decide) ?_ ?_
  · refine r_iload_n (pc := 6) C dX12_isWithin_6 2 rfl ?_
    refine r_bipush (pc := 7) C dX12_isWithin_7 (v := 7) (by decide) ?_
    refine r_icmp_ge 42 (pc := 9) C dX12_isWithin_9 (by decide) ?_ ?_
    · refine r_iload_n (pc := 42) C dX12_isWithin_42 2 rfl ?_
      refine r_bipush (pc := 43) C dX12_isWithin_43 (v := 15) (by decide) ?_
      refine r_icmp_ge 67 (pc := 45) C dX12_isWithin_45 (by decide) ?_ ?_
      · refine r_aload_n (pc := 67) C dX12_isWithin_67 0 rfl ?_
        refine r_iload_n (pc := 68) C dX12_isWithin_68 1 rfl ?_
        refine r_cVpi (As := [.int a1]) (st := []) (pc := 69) C (fun _ h => c_X12_ageOf h) kY_X12_ageOf kw_7_31 kw_0_65 kw_7_29 rfl ⟨Nat.le_of_ble_eq_true rfl, Nat.le_of_ble_eq_true rfl⟩ rfl rfl ⟨Nat.zero_le _, Nat.zero_le _⟩ 0 rfl rfl rfl (Nat.le_of_ble_eq_true rfl) dX12_isWithin_69 (fun x1 => ?_)
        refine r_istore_n (pc := 72) C dX12_isWithin_72 (lv' := [(0, .ref (q 0)), (1, .int a1), (2, .int a2), (3, .int x1)]) (by decide) [1, 2, 3, 0] rfl ?_
        refine r_iload_n (pc := 73) C dX12_isWithin_73 2 rfl ?_
        refine r_bipush (pc := 74) C dX12_isWithin_74 (v := 18) (by decide) ?_
        refine r_icmp_ge 113 (pc := 76) C dX12_isWithin_76 (by decide) ?_ ?_
        · refine r_iload_n (pc := 113) C dX12_isWithin_113 3 rfl ?_
          refine r_bipush (pc := 114) C dX12_isWithin_114 (v := 35) (by decide) ?_
          refine r_iconst (pc := 116) C dX12_isWithin_116 (v := 5) (by decide) ?_
          refine r_iload_n (pc := 117) C dX12_isWithin_117 2 rfl ?_
          refine r_bipush (pc := 118) C dX12_isWithin_118 (v := 18) (by decide) ?_
          refine r_isub (pc := 120) C dX12_isWithin_120 ?_
          refine r_imul (pc := 121) C dX12_isWithin_121 ?_
          refine r_iadd (pc := 122) C dX12_isWithin_122 ?_
          refine r_icmp_lt 130 (pc := 123) C dX12_isWithin_123 (by decide) ?_ ?_
          · refine r_iconst (pc := 130) C dX12_isWithin_130 (v := 0) (by decide) ?_
            exact r_retPZ hR rfl (pc := 131) dX12_isWithin_131
          · refine r_iconst (pc := 126) C dX12_isWithin_126 (v := 1) (by decide) ?_
            refine r_goto 131 (pc := 127) C dX12_isWithin_127 (by decide) ?_
            exact r_retPZ hR rfl (pc := 131) dX12_isWithin_131
        · refine r_iload_n (pc := 79) C dX12_isWithin_79 3 rfl ?_
          refine r_iload_n (pc := 80) C dX12_isWithin_80 2 rfl ?_
          refine r_bipush (pc := 81) C dX12_isWithin_81 (v := 15) (by decide) ?_
          refine r_jn1 104 (fun (x2 : Int32) => mw g q S) (fun (x2 : Int32) => []) (fun (x2 : Int32) => [.int x2, .int x1]) (fun x2 => ?_) (fun k3 hk4 => ?_)
          · refine r_icmp_ge 111 (pc := 104) C dX12_isWithin_104 (by decide) ?_ ?_
            · refine r_iconst (pc := 111) C dX12_isWithin_111 (v := 0) (by decide) ?_
              exact r_retPZ hR rfl (pc := 112) dX12_isWithin_112
            · refine r_iconst (pc := 107) C dX12_isWithin_107 (v := 1) (by decide) ?_
              refine r_goto 112 (pc := 108) C dX12_isWithin_108 (by decide) ?_
              exact r_retPZ hR rfl (pc := 112) dX12_isWithin_112
          · refine r_icmp_ne 91 (pc := 83) C dX12_isWithin_83 (by decide) ?_ ?_
            · refine r_iload_n (pc := 91) C dX12_isWithin_91 2 rfl ?_
              refine r_bipush (pc := 92) C dX12_isWithin_92 (v := 16) (by decide) ?_
              refine r_icmp_ne 102 (pc := 94) C dX12_isWithin_94 (by decide) ?_ ?_
              · refine r_bipush (pc := 102) C dX12_isWithin_102 (v := 23) (by decide) ?_
                refine r_sub (lv' := []) [] rfl ?_
                exact hk4 23
              · refine r_bipush (pc := 97) C dX12_isWithin_97 (v := 20) (by decide) ?_
                refine r_goto 104 (pc := 99) C dX12_isWithin_99 (by decide) ?_
                refine r_sub (lv' := []) [] rfl ?_
                exact hk4 20
            · refine r_bipush (pc := 86) C dX12_isWithin_86 (v := 18) (by decide) ?_
              refine r_goto 104 (pc := 88) C dX12_isWithin_88 (by decide) ?_
              refine r_sub (lv' := []) [] rfl ?_
              exact hk4 18
      · refine r_aload_n (pc := 48) C dX12_isWithin_48 0 rfl ?_
        refine r_iload_n (pc := 49) C dX12_isWithin_49 1 rfl ?_
        refine r_iconst (pc := 50) C dX12_isWithin_50 (v := 2) (by decide) ?_
        refine r_cVpi (As := [.int a1, .int 2]) (st := []) (pc := 51) C (fun _ h => c_X12_of h) kY_X12_of kw_7_27 kw_0_64 kw_7_25 rfl ⟨Nat.le_of_ble_eq_true rfl, Nat.le_of_ble_eq_true rfl⟩ rfl rfl ⟨Nat.zero_le _, Nat.zero_le _⟩ 0 rfl rfl rfl (Nat.le_of_ble_eq_true rfl) dX12_isWithin_51 (fun x5 => ?_)
        refine r_iload_n (pc := 54) C dX12_isWithin_54 2 rfl ?_
        refine r_bipush (pc := 55) C dX12_isWithin_55 (v := 7) (by decide) ?_
        refine r_isub (pc := 57) C dX12_isWithin_57 ?_
        refine r_icmp_ne 65 (pc := 58) C dX12_isWithin_58 (by decide) ?_ ?_
        · refine r_iconst (pc := 65) C dX12_isWithin_65 (v := 0) (by decide) ?_
          exact r_retPZ hR rfl (pc := 66) dX12_isWithin_66
        · refine r_iconst (pc := 61) C dX12_isWithin_61 (v := 1) (by decide) ?_
          refine r_goto 66 (pc := 62) C dX12_isWithin_62 (by decide) ?_
          exact r_retPZ hR rfl (pc := 66) dX12_isWithin_66
    · refine r_aload_n (pc := 12) C dX12_isWithin_12 0 rfl ?_
      refine mg_all (pc := 13) C dX12_isWithin_13 ?_
      refine r_bipush (pc := 16) C dX12_isWithin_16 (v := 33) (by decide) ?_
      refine r_iconst (pc := 18) C dX12_isWithin_18 (v := 2) (by decide) ?_
      refine r_aload_n (pc := 19) C dX12_isWithin_19 0 rfl ?_
      refine r_iload_n (pc := 20) C dX12_isWithin_20 1 rfl ?_
      refine r_iconst (pc := 21) C dX12_isWithin_21 (v := 1) (by decide) ?_
      refine r_cVpi (As := [.int a1, .int 1]) (st := [.int 2, .int 33, .ref (q 1)]) (pc := 22) C (fun _ h => c_X12_of h) kY_X12_of kw_7_27 kw_0_64 kw_7_25 rfl ⟨Nat.le_of_ble_eq_true rfl, Nat.le_of_ble_eq_true rfl⟩ rfl rfl ⟨Nat.zero_le _, Nat.zero_le _⟩ 0 rfl rfl rfl (Nat.le_of_ble_eq_true rfl) dX12_isWithin_22 (fun x6 => ?_)
      refine r_imul (pc := 25) C dX12_isWithin_25 ?_
      refine r_iadd (pc := 26) C dX12_isWithin_26 ?_
      refine r_iconst (pc := 27) C dX12_isWithin_27 (v := 1) (by decide) ?_
      refine r_iadd (pc := 28) C dX12_isWithin_28 ?_
      refine ml_all (pc := 29) C dX12_isWithin_29 ?_
      refine r_iload_n (pc := 30) C dX12_isWithin_30 2 rfl ?_
      refine r_iconst (pc := 31) C dX12_isWithin_31 (v := 1) (by decide) ?_
      refine r_isub (pc := 32) C dX12_isWithin_32 ?_
      refine r_icmp_ne 40 (pc := 33) C dX12_isWithin_33 (by decide) ?_ ?_
      · refine r_iconst (pc := 40) C dX12_isWithin_40 (v := 0) (by decide) ?_
        exact r_retPZ hR rfl (pc := 41) dX12_isWithin_41
      · refine r_iconst (pc := 36) C dX12_isWithin_36 (v := 1) (by decide) ?_
        refine r_goto 41 (pc := 37) C dX12_isWithin_37 (by decide) ?_
        exact r_retPZ hR rfl (pc := 41) dX12_isWithin_41
  · refine r_iconst (pc := 4) C dX12_isWithin_4 (v := 1) (by decide) ?_
    exact r_retPZ hR rfl (pc := 5) dX12_isWithin_5
abbrev rm_X12_isScope : Room := { frames := 1, cells := 0, slots := 0, locals := 22 }
theorem kY_X12_isScope : kY yX12_isScope cX12_isScope 1 (some .boolean) 1 := ⟨kw_1_13, kw_7_91, by decide, by decide, by decide +kernel⟩
def f_X12_isScope (a0 : Int32) : Option (Bool) :=
  bp (f_X12_isIn a0 0 21) (fun x1 =>
  some x1)
set_option maxRecDepth 100000 in
set_option maxHeartbeats 4000000 in
theorem c_X12_isScope {g : KG} {ws : va_W} {a0 : Int32} {r : Bool} (h : f_X12_isScope a0 = some r) : ∀ l, kM l yX12_isScope cX12_isScope 1 (some .boolean) rm_X12_isScope g [.int a0] (ws) (ws) (some (.int (b2 r))) 0 0 := by
  refine k_open_z (own := "MarkChainsModel") (by decide) rfl (Nat.le_of_ble_eq_true rfl) (fun X C hR => ?_)
  refine (?_ : jJ X g (r : Bool) (ws) 0 0 0 [(0, .int a0)] [] (f_X12_isScope a0)) h
  unfold f_X12_isScope
  refine r_iload_n (pc := 0) C dX12_isScope_0 0 rfl ?_
  refine r_iconst (pc := 1) C dX12_isScope_1 (v := 0) (by decide) ?_
  refine r_bipush (pc := 2) C dX12_isScope_2 (v := 21) (by decide) ?_
  refine r_cSpz (As := [.int a0, .int 0, .int 21]) (st := []) (pc := 4) C (fun _ h => c_X12_isIn h) kY_X12_isIn kw_6_124 kw_6_123 rfl ⟨Nat.le_of_ble_eq_true rfl, Nat.le_of_ble_eq_true rfl⟩ rfl rfl ⟨Nat.zero_le _, Nat.zero_le _⟩ rfl (Nat.le_of_ble_eq_true rfl) dX12_isScope_4 (fun x1 => ?_)
  exact r_retPZ hR rfl (pc := 7) dX12_isScope_7
abbrev rm_X12_within : Room := { frames := 4, cells := 0, slots := 0, locals := 86 }
theorem kY_X12_within : kY yX12_within cX12_within 3 (some .int) 2 := ⟨kw_1_13, kw_7_88, by decide, by decide, by decide +kernel⟩
def f_X12_within (S : MS) (a1 : Int32) (a2 : Int32) : Option (Int32) :=
  bp (f_X12_isMark S a1) (fun x1 =>
  (if x1 = true then
  bp (f_X12_isScope a2) (fun x2 =>
  (if x2 = true then
  bp (f_X12_isWithin S a1 a2) (fun x3 =>
  (if x3 = true then
  some 1
 else
  some 0))
 else
  some (-1)))
 else
  some (-1)))
set_option maxRecDepth 100000 in
set_option maxHeartbeats 4000000 in
theorem c_X12_within {g : KG} {q : Nat → Nat} {S : MS} {a1 : Int32} {a2 : Int32} {r : Int32} (h : f_X12_within S a1 a2 = some r) : ∀ l, kM l yX12_within cX12_within 3 (some .int) rm_X12_within g [.ref (q 0), .int a1, .int a2] (mw g q S) (mw g q S) (some (.int r)) 0 0 := by
  refine k_open_i (own := "MarkChainsModel") (by decide) rfl (Nat.le_of_ble_eq_true rfl) (fun X C hR => ?_)
  refine (?_ : jJ X g (r : Int32) (mw g q S) 0 0 0 [(0, .ref (q 0)), (1, .int a1), (2, .int a2)] [] (f_X12_within S a1 a2)) h
  unfold f_X12_within
  refine r_aload_n (pc := 0) C dX12_within_0 0 rfl ?_
  refine r_iload_n (pc := 1) C dX12_within_1 1 rfl ?_
  refine r_cVpz (As := [.int a1]) (st := []) (pc := 2) C (fun _ h => c_X12_isMark h) kY_X12_isMark kw_7_11 kw_0_60 kw_7_9 rfl ⟨Nat.le_of_ble_eq_true rfl, Nat.le_of_ble_eq_true rfl⟩ rfl rfl ⟨Nat.zero_le _, Nat.zero_le _⟩ 0 rfl rfl rfl (Nat.le_of_ble_eq_true rfl) dX12_within_2 (fun x1 => ?_)
  refine r_ifb_eq 32 (pc := 5) C dX12_within_5 (by decide) ?_ ?_
  · refine r_iconst (pc := 32) C dX12_within_32 (v := (-1)) (by decide) ?_
    exact r_retPI hR (pc := 33) dX12_within_33
  · refine r_iload_n (pc := 8) C dX12_within_8 2 rfl ?_
    refine r_cSpz (As := [.int a2]) (st := []) (pc := 9) C (fun _ h => c_X12_isScope h) kY_X12_isScope kw_7_90 kw_7_89 rfl ⟨Nat.le_of_ble_eq_true rfl, Nat.le_of_ble_eq_true rfl⟩ rfl rfl ⟨Nat.zero_le _, Nat.zero_le _⟩ rfl (Nat.le_of_ble_eq_true rfl) dX12_within_9 (fun x2 => ?_)
    refine r_ifb_eq 32 (pc := 12) C dX12_within_12 (by decide) ?_ ?_
    · refine r_iconst (pc := 32) C dX12_within_32 (v := (-1)) (by decide) ?_
      exact r_retPI hR (pc := 33) dX12_within_33
    · refine r_aload_n (pc := 15) C dX12_within_15 0 rfl ?_
      refine r_iload_n (pc := 16) C dX12_within_16 1 rfl ?_
      refine r_iload_n (pc := 17) C dX12_within_17 2 rfl ?_
      refine r_cVpz (As := [.int a1, .int a2]) (st := []) (pc := 18) C (fun _ h => c_X12_isWithin h) kY_X12_isWithin kw_7_94 kw_0_70 kw_7_92 rfl ⟨Nat.le_of_ble_eq_true rfl, Nat.le_of_ble_eq_true rfl⟩ rfl rfl ⟨Nat.zero_le _, Nat.zero_le _⟩ 0 rfl rfl rfl (Nat.le_of_ble_eq_true rfl) dX12_within_18 (fun x3 => ?_)
      refine r_ifb_eq 28 (pc := 21) C dX12_within_21 (by decide) ?_ ?_
      · refine r_iconst (pc := 28) C dX12_within_28 (v := 0) (by decide) ?_
        refine r_goto 33 (pc := 29) C dX12_within_29 (by decide) ?_
        exact r_retPI hR (pc := 33) dX12_within_33
      · refine r_iconst (pc := 24) C dX12_within_24 (v := 1) (by decide) ?_
        refine r_goto 33 (pc := 25) C dX12_within_25 (by decide) ?_
        exact r_retPI hR (pc := 33) dX12_within_33
abbrev rm_X12_isBetter : Room := { frames := 0, cells := 0, slots := 0, locals := 0 }
theorem kY_X12_isBetter : kY yX12_isBetter cX12_isBetter 4 (some .boolean) 3 := ⟨kw_1_13, kw_7_119, by decide, by decide, by decide +kernel⟩
def f_X12_isBetter (S : MS) (a1 : Int32) (a2 : Int32) (a3 : Int32) : Option (Bool) :=
  chk (5 + (2 * a1)) 1177 (
  (if (S.2 0 (5 + (2 * a1)).toNatClampNeg) = 0 then
  (if a3 ≤ a2 then
  some false
 else
  some true)
 else
  (if a2 ≤ a3 then
  some false
 else
  some true)))
set_option maxRecDepth 100000 in
set_option maxHeartbeats 4000000 in
theorem c_X12_isBetter {g : KG} {q : Nat → Nat} {S : MS} {a1 : Int32} {a2 : Int32} {a3 : Int32} {r : Bool} (h : f_X12_isBetter S a1 a2 a3 = some r) : ∀ l, kM l yX12_isBetter cX12_isBetter 4 (some .boolean) rm_X12_isBetter g [.ref (q 0), .int a1, .int a2, .int a3] (mw g q S) (mw g q S) (some (.int (b2 r))) 0 0 := by
  refine k_open_z (own := "MarkChainsModel") (by decide) rfl (Nat.le_of_ble_eq_true rfl) (fun X C hR => ?_)
  refine (?_ : jJ X g (r : Bool) (mw g q S) 0 0 0 [(0, .ref (q 0)), (1, .int a1), (2, .int a2), (3, .int a3)] [] (f_X12_isBetter S a1 a2 a3)) h
  unfold f_X12_isBetter
  refine r_aload_n (pc := 0) C dX12_isBetter_0 0 rfl ?_
  refine mg_all (pc := 1) C dX12_isBetter_1 ?_
  refine r_iconst (pc := 4) C dX12_isBetter_4 (v := 5) (by decide) ?_
  refine r_iconst (pc := 5) C dX12_isBetter_5 (v := 2) (by decide) ?_
  refine r_iload_n (pc := 6) C dX12_isBetter_6 1 rfl ?_
  refine r_imul (pc := 7) C dX12_isBetter_7 ?_
  refine r_iadd (pc := 8) C dX12_isBetter_8 ?_
  refine ml_all (pc := 9) C dX12_isBetter_9 ?_
  refine r_if_ne 26 (pc := 10) C dX12_isBetter_10 (by decide) ?_ ?_
  · refine r_iload_n (pc := 26) C dX12_isBetter_26 2 rfl ?_
    refine r_iload_n (pc := 27) C dX12_isBetter_27 3 rfl ?_
    refine r_icmp_le 35 (pc := 28) C dX12_isBetter_28 (by decide) ?_ ?_
    · refine r_iconst (pc := 35) C dX12_isBetter_35 (v := 0) (by decide) ?_
      exact r_retPZ hR rfl (pc := 36) dX12_isBetter_36
    · refine r_iconst (pc := 31) C dX12_isBetter_31 (v := 1) (by decide) ?_
      refine r_goto 36 (pc := 32) C dX12_isBetter_32 (by decide) ?_
      exact r_retPZ hR rfl (pc := 36) dX12_isBetter_36
  · refine r_iload_n (pc := 13) C dX12_isBetter_13 2 rfl ?_
    refine r_iload_n (pc := 14) C dX12_isBetter_14 3 rfl ?_
    refine r_icmp_ge 22 (pc := 15) C dX12_isBetter_15 (by decide) ?_ ?_
    · refine r_iconst (pc := 22) C dX12_isBetter_22 (v := 0) (by decide) ?_
      refine r_goto 36 (pc := 23) C dX12_isBetter_23 (by decide) ?_
      exact r_retPZ hR rfl (pc := 36) dX12_isBetter_36
    · refine r_iconst (pc := 18) C dX12_isBetter_18 (v := 1) (by decide) ?_
      refine r_goto 36 (pc := 19) C dX12_isBetter_19 (by decide) ?_
      exact r_retPZ hR rfl (pc := 36) dX12_isBetter_36
abbrev rm_X12_isAhead : Room := { frames := 2, cells := 0, slots := 0, locals := 42 }
theorem kY_X12_isAhead : kY yX12_isAhead cX12_isAhead 3 (some .boolean) 2 := ⟨kw_1_13, kw_7_115, by decide, by decide, by decide +kernel⟩
def f_X12_isAhead (S : MS) (a1 : Int32) (a2 : Int32) : Option (Bool) :=
  bp (f_X12_of S a1 3) (fun x1 =>
  bp (f_X12_of S a2 3) (fun x2 =>
  (if x1 = x2 then
  bp (f_X12_of S a1 4) (fun x3 =>
  bp (f_X12_of S a2 4) (fun x4 =>
  (if x3 = x4 then
  (if a2 ≤ a1 then
  some false
 else
  some true)
 else
  bp (f_X12_of S a1 4) (fun x5 =>
  bp (f_X12_of S a2 4) (fun x6 =>
  (if x6 ≤ x5 then
  some false
 else
  some true))))))
 else
  bp (f_X12_of S a1 3) (fun x7 =>
  bp (f_X12_of S a2 3) (fun x8 =>
  (if x8 ≤ x7 then
  some false
 else
  some true))))))
set_option maxRecDepth 100000 in
set_option maxHeartbeats 4000000 in
theorem c_X12_isAhead {g : KG} {q : Nat → Nat} {S : MS} {a1 : Int32} {a2 : Int32} {r : Bool} (h : f_X12_isAhead S a1 a2 = some r) : ∀ l, kM l yX12_isAhead cX12_isAhead 3 (some .boolean) rm_X12_isAhead g [.ref (q 0), .int a1, .int a2] (mw g q S) (mw g q S) (some (.int (b2 r))) 0 0 := by
  refine k_open_z (own := "MarkChainsModel") (by decide) rfl (Nat.le_of_ble_eq_true rfl) (fun X C hR => ?_)
  refine (?_ : jJ X g (r : Bool) (mw g q S) 0 0 0 [(0, .ref (q 0)), (1, .int a1), (2, .int a2)] [] (f_X12_isAhead S a1 a2)) h
  unfold f_X12_isAhead
  refine r_aload_n (pc := 0) C dX12_isAhead_0 0 rfl ?_
  refine r_iload_n (pc := 1) C dX12_isAhead_1 1 rfl ?_
  refine r_iconst (pc := 2) C dX12_isAhead_2 (v := 3) (by decide) ?_
  refine r_cVpi (As := [.int a1, .int 3]) (st := []) (pc := 3) C (fun _ h => c_X12_of h) kY_X12_of kw_7_27 kw_0_64 kw_7_25 rfl ⟨Nat.le_of_ble_eq_true rfl, Nat.le_of_ble_eq_true rfl⟩ rfl rfl ⟨Nat.zero_le _, Nat.zero_le _⟩ 0 rfl rfl rfl (Nat.le_of_ble_eq_true rfl) dX12_isAhead_3 (fun x1 => ?_)
  refine r_aload_n (pc := 6) C dX12_isAhead_6 0 rfl ?_
  refine r_iload_n (pc := 7) C dX12_isAhead_7 2 rfl ?_
  refine r_iconst (pc := 8) C dX12_isAhead_8 (v := 3) (by decide) ?_
  refine r_cVpi (As := [.int a2, .int 3]) (st := [.int x1]) (pc := 9) C (fun _ h => c_X12_of h) kY_X12_of kw_7_27 kw_0_64 kw_7_25 rfl ⟨Nat.le_of_ble_eq_true rfl, Nat.le_of_ble_eq_true rfl⟩ rfl rfl ⟨Nat.zero_le _, Nat.zero_le _⟩ 0 rfl rfl rfl (Nat.le_of_ble_eq_true rfl) dX12_isAhead_9 (fun x2 => ?_)
  refine r_icmp_eq 36 (pc := 12) C dX12_isAhead_12 (by decide) ?_ ?_
  · refine r_aload_n (pc := 36) C dX12_isAhead_36 0 rfl ?_
    refine r_iload_n (pc := 37) C dX12_isAhead_37 1 rfl ?_
    refine r_iconst (pc := 38) C dX12_isAhead_38 (v := 4) (by decide) ?_
    refine r_cVpi (As := [.int a1, .int 4]) (st := []) (pc := 39) C (fun _ h => c_X12_of h) kY_X12_of kw_7_27 kw_0_64 kw_7_25 rfl ⟨Nat.le_of_ble_eq_true rfl, Nat.le_of_ble_eq_true rfl⟩ rfl rfl ⟨Nat.zero_le _, Nat.zero_le _⟩ 0 rfl rfl rfl (Nat.le_of_ble_eq_true rfl) dX12_isAhead_39 (fun x3 => ?_)
    refine r_aload_n (pc := 42) C dX12_isAhead_42 0 rfl ?_
    refine r_iload_n (pc := 43) C dX12_isAhead_43 2 rfl ?_
    refine r_iconst (pc := 44) C dX12_isAhead_44 (v := 4) (by decide) ?_
    refine r_cVpi (As := [.int a2, .int 4]) (st := [.int x3]) (pc := 45) C (fun _ h => c_X12_of h) kY_X12_of kw_7_27 kw_0_64 kw_7_25 rfl ⟨Nat.le_of_ble_eq_true rfl, Nat.le_of_ble_eq_true rfl⟩ rfl rfl ⟨Nat.zero_le _, Nat.zero_le _⟩ 0 rfl rfl rfl (Nat.le_of_ble_eq_true rfl) dX12_isAhead_45 (fun x4 => ?_)
    refine r_icmp_eq 72 (pc := 48) C dX12_isAhead_48 (by decide) ?_ ?_
    · refine r_iload_n (pc := 72) C dX12_isAhead_72 1 rfl ?_
      refine r_iload_n (pc := 73) C dX12_isAhead_73 2 rfl ?_
      refine r_icmp_ge 81 (pc := 74) C dX12_isAhead_74 (by decide) ?_ ?_
      · refine r_iconst (pc := 81) C dX12_isAhead_81 (v := 0) (by decide) ?_
        exact r_retPZ hR rfl (pc := 82) dX12_isAhead_82
      · refine r_iconst (pc := 77) C dX12_isAhead_77 (v := 1) (by decide) ?_
        refine r_goto 82 (pc := 78) C dX12_isAhead_78 (by decide) ?_
        exact r_retPZ hR rfl (pc := 82) dX12_isAhead_82
    · refine r_aload_n (pc := 51) C dX12_isAhead_51 0 rfl ?_
      refine r_iload_n (pc := 52) C dX12_isAhead_52 1 rfl ?_
      refine r_iconst (pc := 53) C dX12_isAhead_53 (v := 4) (by decide) ?_
      refine r_cVpi (As := [.int a1, .int 4]) (st := []) (pc := 54) C (fun _ h => c_X12_of h) kY_X12_of kw_7_27 kw_0_64 kw_7_25 rfl ⟨Nat.le_of_ble_eq_true rfl, Nat.le_of_ble_eq_true rfl⟩ rfl rfl ⟨Nat.zero_le _, Nat.zero_le _⟩ 0 rfl rfl rfl (Nat.le_of_ble_eq_true rfl) dX12_isAhead_54 (fun x5 => ?_)
      refine r_aload_n (pc := 57) C dX12_isAhead_57 0 rfl ?_
      refine r_iload_n (pc := 58) C dX12_isAhead_58 2 rfl ?_
      refine r_iconst (pc := 59) C dX12_isAhead_59 (v := 4) (by decide) ?_
      refine r_cVpi (As := [.int a2, .int 4]) (st := [.int x5]) (pc := 60) C (fun _ h => c_X12_of h) kY_X12_of kw_7_27 kw_0_64 kw_7_25 rfl ⟨Nat.le_of_ble_eq_true rfl, Nat.le_of_ble_eq_true rfl⟩ rfl rfl ⟨Nat.zero_le _, Nat.zero_le _⟩ 0 rfl rfl rfl (Nat.le_of_ble_eq_true rfl) dX12_isAhead_60 (fun x6 => ?_)
      refine r_icmp_ge 70 (pc := 63) C dX12_isAhead_63 (by decide) ?_ ?_
      · refine r_iconst (pc := 70) C dX12_isAhead_70 (v := 0) (by decide) ?_
        exact r_retPZ hR rfl (pc := 71) dX12_isAhead_71
      · refine r_iconst (pc := 66) C dX12_isAhead_66 (v := 1) (by decide) ?_
        refine r_goto 71 (pc := 67) C dX12_isAhead_67 (by decide) ?_
        exact r_retPZ hR rfl (pc := 71) dX12_isAhead_71
  · refine r_aload_n (pc := 15) C dX12_isAhead_15 0 rfl ?_
    refine r_iload_n (pc := 16) C dX12_isAhead_16 1 rfl ?_
    refine r_iconst (pc := 17) C dX12_isAhead_17 (v := 3) (by decide) ?_
    refine r_cVpi (As := [.int a1, .int 3]) (st := []) (pc := 18) C (fun _ h => c_X12_of h) kY_X12_of kw_7_27 kw_0_64 kw_7_25 rfl ⟨Nat.le_of_ble_eq_true rfl, Nat.le_of_ble_eq_true rfl⟩ rfl rfl ⟨Nat.zero_le _, Nat.zero_le _⟩ 0 rfl rfl rfl (Nat.le_of_ble_eq_true rfl) dX12_isAhead_18 (fun x7 => ?_)
    refine r_aload_n (pc := 21) C dX12_isAhead_21 0 rfl ?_
    refine r_iload_n (pc := 22) C dX12_isAhead_22 2 rfl ?_
    refine r_iconst (pc := 23) C dX12_isAhead_23 (v := 3) (by decide) ?_
    refine r_cVpi (As := [.int a2, .int 3]) (st := [.int x7]) (pc := 24) C (fun _ h => c_X12_of h) kY_X12_of kw_7_27 kw_0_64 kw_7_25 rfl ⟨Nat.le_of_ble_eq_true rfl, Nat.le_of_ble_eq_true rfl⟩ rfl rfl ⟨Nat.zero_le _, Nat.zero_le _⟩ 0 rfl rfl rfl (Nat.le_of_ble_eq_true rfl) dX12_isAhead_24 (fun x8 => ?_)
    refine r_icmp_ge 34 (pc := 27) C dX12_isAhead_27 (by decide) ?_ ?_
    · refine r_iconst (pc := 34) C dX12_isAhead_34 (v := 0) (by decide) ?_
      exact r_retPZ hR rfl (pc := 35) dX12_isAhead_35
    · refine r_iconst (pc := 30) C dX12_isAhead_30 (v := 1) (by decide) ?_
      refine r_goto 35 (pc := 31) C dX12_isAhead_31 (by decide) ?_
      exact r_retPZ hR rfl (pc := 35) dX12_isAhead_35
abbrev rm_X12_layOrder : Room := { frames := 4, cells := 0, slots := 0, locals := 86 }
theorem kY_X12_layOrder : kY yX12_layOrder cX12_layOrder 6 none 3 := ⟨kw_1_13, kw_7_111, by decide, by decide, by decide +kernel⟩
def L_X12_layOrder_77 (c4 : Int32) (k17 : MS → Int32 → Option (MS)) : Nat → MS → Int32 → Option (MS) := lo2 fun rec15 S14 x13 =>
  (if x13 ≤ 0 then
  k17 S14 x13
 else
  chk (x13 - 1) 60 (
  bp (f_X12_isAhead S14 c4 (S14.2 18 (x13 - 1).toNatClampNeg)) (fun x19 =>
  (if x19 = true then
  chk (x13 - 1) 60 (
  chk x13 60 (lt (sa S14 18 (upd (S14.2 18) x13.toNatClampNeg (S14.2 18 (x13 - 1).toNatClampNeg))) fun S20 =>
  lt (x13 + (-1)) fun x21 =>
  rec15 S20 x21))
 else
  k17 S14 x13))))
set_option maxRecDepth 100000 in
set_option maxHeartbeats 4000000 in
theorem l_X12_layOrder_77 {X : KX} {g : KG} {q : Nat → Nat} {res : MS} (C : kC X g cX12_layOrder "MarkChainsModel" rm_X12_layOrder 6) (hR : ∀ (pc : Nat) (lv : List (Nat × Value)), decode cX12_layOrder pc = .ok (.return_, 1) → jW X g (mw g q res) 0 0 pc lv []) (c1 : Int32) (c2 : Int32) (c3 : Int32) (c4 : Int32) (k17 : MS → Int32 → Option (MS)) (hk18 : ∀ (S22 : MS) (x23 : Int32), jJ X g res (mw g q S22) 0 0 122 [(0, .ref (q 0)), (1, .int c1), (2, .int c2), (3, .int c3), (4, .int c4), (5, .int x23)] [] (k17 S22 x23)) : ∀ (n : Nat) (S14 : MS) (x13 : Int32), jJ X g res (mw g q S14) 0 0 77 [(0, .ref (q 0)), (1, .int c1), (2, .int c2), (3, .int c3), (4, .int c4), (5, .int x13)] [] (L_X12_layOrder_77 c4 k17 n S14 x13) := by
  refine r_lo2 (fun S14 x13 => mw g q S14) (fun S14 x13 => [(0, .ref (q 0)), (1, .int c1), (2, .int c2), (3, .int c3), (4, .int c4), (5, .int x13)]) (fun rec15 ih16 S14 x13 => ?_)
  refine r_iload (pc := 77) C dX12_layOrder_77 5 rfl ?_
  refine r_if_le 122 (pc := 79) C dX12_layOrder_79 (by decide) ?_ ?_
  · exact hk18 S14 x13
  · refine r_aload_n (pc := 82) C dX12_layOrder_82 0 rfl ?_
    refine r_iload (pc := 83) C dX12_layOrder_83 4 rfl ?_
    refine r_aload_n (pc := 85) C dX12_layOrder_85 0 rfl ?_
    refine mg_order (pc := 86) C dX12_layOrder_86 ?_
    refine r_iload (pc := 89) C dX12_layOrder_89 5 rfl ?_
    refine r_iconst (pc := 91) C dX12_layOrder_91 (v := 1) (by decide) ?_
    refine r_isub (pc := 92) C dX12_layOrder_92 ?_
    refine ml_order (pc := 93) C dX12_layOrder_93 ?_
    refine r_cVpz (As := [.int c4, .int (S14.2 18 (x13 - 1).toNatClampNeg)]) (st := []) (pc := 94) C (fun _ h => c_X12_isAhead h) kY_X12_isAhead kw_7_114 kw_0_74 kw_7_112 rfl ⟨Nat.le_of_ble_eq_true rfl, Nat.le_of_ble_eq_true rfl⟩ rfl rfl ⟨Nat.zero_le _, Nat.zero_le _⟩ 0 rfl rfl rfl (Nat.le_of_ble_eq_true rfl) dX12_layOrder_94 (fun x19 => ?_)
    refine r_ifb_eq 122 (pc := 97) C dX12_layOrder_97 (by decide) ?_ ?_
    · exact hk18 S14 x13
    · refine r_aload_n (pc := 100) C dX12_layOrder_100 0 rfl ?_
      refine mg_order (pc := 101) C dX12_layOrder_101 ?_
      refine r_iload (pc := 104) C dX12_layOrder_104 5 rfl ?_
      refine r_aload_n (pc := 106) C dX12_layOrder_106 0 rfl ?_
      refine mg_order (pc := 107) C dX12_layOrder_107 ?_
      refine r_iload (pc := 110) C dX12_layOrder_110 5 rfl ?_
      refine r_iconst (pc := 112) C dX12_layOrder_112 (v := 1) (by decide) ?_
      refine r_isub (pc := 113) C dX12_layOrder_113 ?_
      refine ml_order (pc := 114) C dX12_layOrder_114 ?_
      refine ms_order (pc := 115) C dX12_layOrder_115 (fun S20 => ?_)
      refine r_iinc (pc := 116) C dX12_layOrder_116 (v := (-1)) (lv' := fun x21 => [(0, .ref (q 0)), (1, .int c1), (2, .int c2), (3, .int c3), (4, .int c4), (5, .int x21)]) 5 rfl (by decide) (by decide) [1, 2, 3, 4, 5, 0] (fun _ => rfl) (fun x21 => ?_)
      refine r_goto 77 (pc := 119) C dX12_layOrder_119 (by decide) ?_
      exact ih16 S20 x21
set_option maxRecDepth 100000 in
theorem v_X12_layOrder_77 {S0 : MS} {c4 : Int32} {k17 : MS → Int32 → Option (MS)} (hk18 : ∀ (S22 : MS) (x23 : Int32), (fI [20] [18] S0) S22 → jf (fI [20] [18] S0) id (k17 S22 x23)) : ∀ (n : Nat) (S14 : MS) (x13 : Int32), (fI [20] [18] S0) S14 → jf (fI [20] [18] S0) id (L_X12_layOrder_77 c4 k17 n S14 x13) := by
  refine f_lo2 (I := (fI [20] [18] S0)) (fun S14 x13 => S14) (fun rec15 ih16 S14 x13 hS14 => ?_)
  refine f_ite ?_ ?_
  · exact hk18 S14 x13 hS14
  · refine f_chk ?_
    refine f_bp (fun x19 => ?_)
    refine f_ite ?_ ?_
    · refine f_chk ?_
      refine f_chk (f_ltS (fI_sa hS14 (by decide)) (fun S20 hS20 => ?_))
      refine f_lt (fun x21 => ?_)
      exact ih16 S20 x21 hS20
    · exact hk18 S14 x13 hS14
def L_X12_layOrder_8 (c1 : Int32) (c2 : Int32) (c3 : Int32) (k6 : MS → Option (MS)) : Nat → MS → Int32 → Option (MS) := lo2 fun rec4 S3 x2 =>
  chk 3 1177 (
  (if (S3.2 0 (3 : Int32).toNatClampNeg) ≤ x2 then
  k6 S3
 else
  bp (f_X12_of S3 x2 0) (fun x8 =>
  (if x8 = c1 then
  (if x2 = (S3.1 22) then
  lt (x2 + 1) fun x10 =>
  rec4 S3 x10
 else
  jn0 (bp (f_X12_isWithin S3 x2 c2) (fun x11 =>
  (if x11 = true then
  lt (S3.1 20) fun x12 =>
  L_X12_layOrder_77 x2 (fun S24 x25 =>
  chk x25 60 (lt (sa S24 18 (upd (S24.2 18) x25.toNatClampNeg x2)) fun S26 =>
  lt (si S26 20 ((S26.1 20) + 1)) fun S27 =>
  lt (x2 + 1) fun x28 =>
  rec4 S27 x28)) FU S3 x12
 else
  lt (x2 + 1) fun x29 =>
  rec4 S3 x29))) (fun k30 =>
  (if x2 = (S3.1 21) then
  k30
 else
  bp (f_X12_standsOn S3 x2 c3) (fun x32 =>
  (if x32 = true then
  k30
 else
  lt (x2 + 1) fun x33 =>
  rec4 S3 x33)))))
 else
  lt (x2 + 1) fun x9 =>
  rec4 S3 x9))))
set_option maxRecDepth 100000 in
set_option maxHeartbeats 4000000 in
theorem l_X12_layOrder_8 {X : KX} {g : KG} {q : Nat → Nat} {res : MS} (C : kC X g cX12_layOrder "MarkChainsModel" rm_X12_layOrder 6) (hR : ∀ (pc : Nat) (lv : List (Nat × Value)), decode cX12_layOrder pc = .ok (.return_, 1) → jW X g (mw g q res) 0 0 pc lv []) (c1 : Int32) (c2 : Int32) (c3 : Int32) (k6 : MS → Option (MS)) (hk7 : ∀ (S34 : MS), jJ X g res (mw g q S34) 0 0 147 [] [] (k6 S34)) : ∀ (n : Nat) (S3 : MS) (x2 : Int32), jJ X g res (mw g q S3) 0 0 8 [(0, .ref (q 0)), (1, .int c1), (2, .int c2), (3, .int c3), (4, .int x2)] [] (L_X12_layOrder_8 c1 c2 c3 k6 n S3 x2) := by
  refine r_lo2 (fun S3 x2 => mw g q S3) (fun S3 x2 => [(0, .ref (q 0)), (1, .int c1), (2, .int c2), (3, .int c3), (4, .int x2)]) (fun rec4 ih5 S3 x2 => ?_)
  refine r_iload (pc := 8) C dX12_layOrder_8 4 rfl ?_
  refine r_aload_n (pc := 10) C dX12_layOrder_10 0 rfl ?_
  refine mg_all (pc := 11) C dX12_layOrder_11 ?_
  refine r_iconst (pc := 14) C dX12_layOrder_14 (v := 3) (by decide) ?_
  refine ml_all (pc := 15) C dX12_layOrder_15 ?_
  refine r_icmp_ge 147 (pc := 16) C dX12_layOrder_16 (by decide) ?_ ?_
  · refine r_sub (lv' := []) [] rfl ?_
    exact hk7 S3
  · refine r_aload_n (pc := 19) C dX12_layOrder_19 0 rfl ?_
    refine r_iload (pc := 20) C dX12_layOrder_20 4 rfl ?_
    refine r_iconst (pc := 22) C dX12_layOrder_22 (v := 0) (by decide) ?_
    refine r_cVpi (As := [.int x2, .int 0]) (st := []) (pc := 23) C (fun _ h => c_X12_of h) kY_X12_of kw_7_27 kw_0_64 kw_7_25 rfl ⟨Nat.le_of_ble_eq_true rfl, Nat.le_of_ble_eq_true rfl⟩ rfl rfl ⟨Nat.zero_le _, Nat.zero_le _⟩ 0 rfl rfl rfl (Nat.le_of_ble_eq_true rfl) dX12_layOrder_23 (fun x8 => ?_)
    refine r_iload_n (pc := 26) C dX12_layOrder_26 1 rfl ?_
    refine r_icmp_ne 141 (pc := 27) C dX12_layOrder_27 (by decide) ?_ ?_
    · refine r_iinc (pc := 141) C dX12_layOrder_141 (v := 1) (lv' := fun x9 => [(0, .ref (q 0)), (1, .int c1), (2, .int c2), (3, .int c3), (4, .int x9)]) 4 rfl (by decide) (by decide) [1, 2, 3, 4, 0] (fun _ => rfl) (fun x9 => ?_)
      refine r_goto 8 (pc := 144) C dX12_layOrder_144 (by decide) ?_
      exact ih5 S3 x9
    · refine r_iload (pc := 30) C dX12_layOrder_30 4 rfl ?_
      refine r_aload_n (pc := 32) C dX12_layOrder_32 0 rfl ?_
      refine mg_left (pc := 33) C dX12_layOrder_33 ?_
      refine r_icmp_eq 141 (pc := 36) C dX12_layOrder_36 (by decide) ?_ ?_
      · refine r_iinc (pc := 141) C dX12_layOrder_141 (v := 1) (lv' := fun x10 => [(0, .ref (q 0)), (1, .int c1), (2, .int c2), (3, .int c3), (4, .int x10)]) 4 rfl (by decide) (by decide) [1, 2, 3, 4, 0] (fun _ => rfl) (fun x10 => ?_)
        refine r_goto 8 (pc := 144) C dX12_layOrder_144 (by decide) ?_
        exact ih5 S3 x10
      · refine r_iload (pc := 39) C dX12_layOrder_39 4 rfl ?_
        refine r_aload_n (pc := 41) C dX12_layOrder_41 0 rfl ?_
        refine mg_added (pc := 42) C dX12_layOrder_42 ?_
        refine r_jn0 58 (mw g q S3) ([(0, .ref (q 0)), (1, .int c1), (2, .int c2), (3, .int c3), (4, .int x2)]) ([]) ?_ (fun k30 hk31 => ?_)
        · refine r_aload_n (pc := 58) C dX12_layOrder_58 0 rfl ?_
          refine r_iload (pc := 59) C dX12_layOrder_59 4 rfl ?_
          refine r_iload_n (pc := 61) C dX12_layOrder_61 2 rfl ?_
          refine r_cVpz (As := [.int x2, .int c2]) (st := []) (pc := 62) C (fun _ h => c_X12_isWithin h) kY_X12_isWithin kw_7_94 kw_0_70 kw_7_92 rfl ⟨Nat.le_of_ble_eq_true rfl, Nat.le_of_ble_eq_true rfl⟩ rfl rfl ⟨Nat.zero_le _, Nat.zero_le _⟩ 0 rfl rfl rfl (Nat.le_of_ble_eq_true rfl) dX12_layOrder_62 (fun x11 => ?_)
          refine r_ifb_ne 71 (pc := 65) C dX12_layOrder_65 (by decide) ?_ ?_
          · refine r_aload_n (pc := 71) C dX12_layOrder_71 0 rfl ?_
            refine mg_links (pc := 72) C dX12_layOrder_72 ?_
            refine r_istoreV (pc := 75) C dX12_layOrder_75 (lv' := fun x12 => [(0, .ref (q 0)), (1, .int c1), (2, .int c2), (3, .int c3), (4, .int x2), (5, .int x12)]) (by decide) [1, 2, 3, 4, 5, 0] (fun _ => rfl) (fun x12 => ?_)
            refine l_X12_layOrder_77 C hR c1 c2 c3 x2 _ (fun S24 x25 => ?_) FU S3 x12
            refine r_aload_n (pc := 122) C dX12_layOrder_122 0 rfl ?_
            refine mg_order (pc := 123) C dX12_layOrder_123 ?_
            refine r_iload (pc := 126) C dX12_layOrder_126 5 rfl ?_
            refine r_iload (pc := 128) C dX12_layOrder_128 4 rfl ?_
            refine ms_order (pc := 130) C dX12_layOrder_130 (fun S26 => ?_)
            refine r_aload_n (pc := 131) C dX12_layOrder_131 0 rfl ?_
            refine r_dup (pc := 132) C dX12_layOrder_132 rfl ?_
            refine mg_links (pc := 133) C dX12_layOrder_133 ?_
            refine r_iconst (pc := 136) C dX12_layOrder_136 (v := 1) (by decide) ?_
            refine r_iadd (pc := 137) C dX12_layOrder_137 ?_
            refine mp_links (pc := 138) C dX12_layOrder_138 (fun S27 => ?_)
            refine r_iinc (pc := 141) C dX12_layOrder_141 (v := 1) (lv' := fun x28 => [(0, .ref (q 0)), (1, .int c1), (2, .int c2), (3, .int c3), (4, .int x28), (5, .int x25)]) 4 rfl (by decide) (by decide) [1, 2, 3, 4, 0, 5] (fun _ => rfl) (fun x28 => ?_)
            refine r_goto 8 (pc := 144) C dX12_layOrder_144 (by decide) ?_
            refine r_sub (lv' := [(0, .ref (q 0)), (1, .int c1), (2, .int c2), (3, .int c3), (4, .int x28)]) [0, 1, 2, 3, 4] rfl ?_
            exact ih5 S27 x28
          · refine r_goto 141 (pc := 68) C dX12_layOrder_68 (by decide) ?_
            refine r_iinc (pc := 141) C dX12_layOrder_141 (v := 1) (lv' := fun x29 => [(0, .ref (q 0)), (1, .int c1), (2, .int c2), (3, .int c3), (4, .int x29)]) 4 rfl (by decide) (by decide) [1, 2, 3, 4, 0] (fun _ => rfl) (fun x29 => ?_)
            refine r_goto 8 (pc := 144) C dX12_layOrder_144 (by decide) ?_
            exact ih5 S3 x29
        · refine r_icmp_eq 58 (pc := 45) C dX12_layOrder_45 (by decide) ?_ ?_
          · exact hk31
          · refine r_aload_n (pc := 48) C dX12_layOrder_48 0 rfl ?_
            refine r_iload (pc := 49) C dX12_layOrder_49 4 rfl ?_
            refine r_iload_n (pc := 51) C dX12_layOrder_51 3 rfl ?_
            refine r_cVpz (As := [.int x2, .int c3]) (st := []) (pc := 52) C (fun _ h => c_X12_standsOn h) kY_X12_standsOn kw_7_59 kw_0_68 kw_7_57 rfl ⟨Nat.le_of_ble_eq_true rfl, Nat.le_of_ble_eq_true rfl⟩ rfl rfl ⟨Nat.zero_le _, Nat.zero_le _⟩ 0 rfl rfl rfl (Nat.le_of_ble_eq_true rfl) dX12_layOrder_52 (fun x32 => ?_)
            refine r_ifb_eq 141 (pc := 55) C dX12_layOrder_55 (by decide) ?_ ?_
            · refine r_iinc (pc := 141) C dX12_layOrder_141 (v := 1) (lv' := fun x33 => [(0, .ref (q 0)), (1, .int c1), (2, .int c2), (3, .int c3), (4, .int x33)]) 4 rfl (by decide) (by decide) [1, 2, 3, 4, 0] (fun _ => rfl) (fun x33 => ?_)
              refine r_goto 8 (pc := 144) C dX12_layOrder_144 (by decide) ?_
              exact ih5 S3 x33
            · exact hk31
set_option maxRecDepth 100000 in
theorem v_X12_layOrder_8 {S0 : MS} {c1 : Int32} {c2 : Int32} {c3 : Int32} {k6 : MS → Option (MS)} (hk7 : ∀ (S34 : MS), (fI [20] [18] S0) S34 → jf (fI [20] [18] S0) id (k6 S34)) : ∀ (n : Nat) (S3 : MS) (x2 : Int32), (fI [20] [18] S0) S3 → jf (fI [20] [18] S0) id (L_X12_layOrder_8 c1 c2 c3 k6 n S3 x2) := by
  refine f_lo2 (I := (fI [20] [18] S0)) (fun S3 x2 => S3) (fun rec4 ih5 S3 x2 hS3 => ?_)
  refine f_chk ?_
  refine f_ite ?_ ?_
  · exact hk7 S3 hS3
  · refine f_bp (fun x8 => ?_)
    refine f_ite ?_ ?_
    · refine f_ite ?_ ?_
      · refine f_lt (fun x10 => ?_)
        exact ih5 S3 x10 hS3
      · refine f_jm0 hS3 (fun  hS3 => ?_) (fun k30 hk31 => ?_)
        · refine f_bp (fun x11 => ?_)
          refine f_ite ?_ ?_
          · refine f_lt (fun x12 => ?_)
            refine v_X12_layOrder_77 (fun S24 x25 hS24 => ?_) FU S3 x12 hS3
            refine f_chk (f_ltS (fI_sa hS24 (by decide)) (fun S26 hS26 => ?_))
            refine f_ltS (fI_si hS26 (by decide)) (fun S27 hS27 => ?_)
            refine f_lt (fun x28 => ?_)
            exact ih5 S27 x28 hS27
          · refine f_lt (fun x29 => ?_)
            exact ih5 S3 x29 hS3
        · refine f_ite ?_ ?_
          · exact hk31 hS3
          · refine f_bp (fun x32 => ?_)
            refine f_ite ?_ ?_
            · exact hk31 hS3
            · refine f_lt (fun x33 => ?_)
              exact ih5 S3 x33 hS3
    · refine f_lt (fun x9 => ?_)
      exact ih5 S3 x9 hS3
def f_X12_layOrder (S : MS) (a1 : Int32) (a2 : Int32) (a3 : Int32) : Option (MS) :=
  lt (si S 20 0) fun S1 =>
  L_X12_layOrder_8 a1 a2 a3 (fun S35 =>
  some S35) FU S1 0
set_option maxRecDepth 100000 in
set_option maxHeartbeats 4000000 in
theorem c_X12_layOrder {g : KG} {q : Nat → Nat} {S : MS} {a1 : Int32} {a2 : Int32} {a3 : Int32} {S' : MS} (h : f_X12_layOrder S a1 a2 a3 = some S') : ∀ l, kM l yX12_layOrder cX12_layOrder 6 none rm_X12_layOrder g [.ref (q 0), .int a1, .int a2, .int a3] (mw g q S) (mw g q S') (none) 0 0 := by
  refine k_open_v (own := "MarkChainsModel") (by decide) rfl (Nat.le_of_ble_eq_true rfl) (fun X C hR => ?_)
  refine (?_ : jJ X g (S' : MS) (mw g q S) 0 0 0 [(0, .ref (q 0)), (1, .int a1), (2, .int a2), (3, .int a3)] [] (f_X12_layOrder S a1 a2 a3)) h
  unfold f_X12_layOrder
  refine r_aload_n (pc := 0) C dX12_layOrder_0 0 rfl ?_
  refine r_iconst (pc := 1) C dX12_layOrder_1 (v := 0) (by decide) ?_
  refine mp_links (pc := 2) C dX12_layOrder_2 (fun S1 => ?_)
  refine r_iconst (pc := 5) C dX12_layOrder_5 (v := 0) (by decide) ?_
  refine r_istore (pc := 6) C dX12_layOrder_6 (lv' := [(0, .ref (q 0)), (1, .int a1), (2, .int a2), (3, .int a3), (4, .int 0)]) (by decide) [1, 2, 3, 4, 0] rfl ?_
  refine l_X12_layOrder_8 C hR a1 a2 a3 _ (fun S35 => ?_) FU S1 0
  exact r_retWV (wf := mw g q) hR (pc := 147) dX12_layOrder_147
set_option maxRecDepth 100000 in
theorem w_X12_layOrder {S : MS} {a1 : Int32} {a2 : Int32} {a3 : Int32} {S' : MS} (h : f_X12_layOrder S a1 a2 a3 = some S') : fI [20] [18] S S' := by
  have hS : fI [20] [18] S S := fI_rf
  refine (?_ : jf (fI [20] [18] S) id (f_X12_layOrder S a1 a2 a3)) _ h
  unfold f_X12_layOrder
  refine f_ltS (fI_si hS (by decide)) (fun S1 hS1 => ?_)
  refine v_X12_layOrder_8 (fun S35 hS35 => ?_) FU S1 0 hS1
  exact f_some hS35
abbrev rm_X12_layChain : Room := { frames := 5, cells := 0, slots := 0, locals := 111 }
theorem kY_X12_layChain : kY yX12_layChain cX12_layChain 6 none 3 := ⟨kw_1_13, kw_7_107, by decide, by decide, by decide +kernel⟩
def L_X12_layChain_21 (c1 : Int32) (c4 : Int32) (k8 : MS → Option (MS)) : Nat → MS → Int32 → Option (MS) := lo2 fun rec6 S5 x4 =>
  (if c4 ≤ x4 then
  k8 S5
 else
  jn0 (chk x4 60 (
  chk (S5.1 20) 60 (lt (sa S5 19 (upd (S5.2 19) (S5.1 20).toNatClampNeg (S5.2 18 x4.toNatClampNeg))) fun S10 =>
  lt (si S10 20 ((S10.1 20) + 1)) fun S11 =>
  lt (x4 + 1) fun x12 =>
  rec6 S11 x12))) (fun k13 =>
  (if (S5.1 20) ≤ 0 then
  k13
 else
  chk ((S5.1 20) - 1) 60 (
  bp (f_X12_of S5 (S5.2 19 ((S5.1 20) - 1).toNatClampNeg) 5) (fun x15 =>
  chk x4 60 (
  bp (f_X12_of S5 (S5.2 18 x4.toNatClampNeg) 5) (fun x16 =>
  bp (f_X12_isBetter S5 c1 x15 x16) (fun x17 =>
  (if x17 = true then
  lt (x4 + 1) fun x18 =>
  rec6 S5 x18
 else
  k13)))))))))
set_option maxRecDepth 100000 in
set_option maxHeartbeats 4000000 in
theorem l_X12_layChain_21 {X : KX} {g : KG} {q : Nat → Nat} {res : MS} (C : kC X g cX12_layChain "MarkChainsModel" rm_X12_layChain 6) (hR : ∀ (pc : Nat) (lv : List (Nat × Value)), decode cX12_layChain pc = .ok (.return_, 1) → jW X g (mw g q res) 0 0 pc lv []) (c1 : Int32) (c4 : Int32) (k8 : MS → Option (MS)) (hk9 : ∀ (S19 : MS), jJ X g res (mw g q S19) 0 0 106 [] [] (k8 S19)) : ∀ (n : Nat) (S5 : MS) (x4 : Int32), jJ X g res (mw g q S5) 0 0 21 [(0, .ref (q 0)), (1, .int c1), (4, .int c4), (5, .int x4)] [] (L_X12_layChain_21 c1 c4 k8 n S5 x4) := by
  refine r_lo2 (fun S5 x4 => mw g q S5) (fun S5 x4 => [(0, .ref (q 0)), (1, .int c1), (4, .int c4), (5, .int x4)]) (fun rec6 ih7 S5 x4 => ?_)
  refine r_iload (pc := 21) C dX12_layChain_21 3 rfl ?_
  refine r_iload (pc := 23) C dX12_layChain_23 2 rfl ?_
  refine r_icmp_ge 106 (pc := 25) C dX12_layChain_25 (by decide) ?_ ?_
  · refine r_sub (lv' := []) [] rfl ?_
    exact hk9 S5
  · refine r_aload_n (pc := 28) C dX12_layChain_28 0 rfl ?_
    refine mg_links (pc := 29) C dX12_layChain_29 ?_
    refine r_jn0 74 (mw g q S5) ([(0, .ref (q 0)), (1, .int c1), (4, .int c4), (5, .int x4)]) ([]) ?_ (fun k13 hk14 => ?_)
    · refine r_aload_n (pc := 74) C dX12_layChain_74 0 rfl ?_
      refine mg_link (pc := 75) C dX12_layChain_75 ?_
      refine r_aload_n (pc := 78) C dX12_layChain_78 0 rfl ?_
      refine mg_links (pc := 79) C dX12_layChain_79 ?_
      refine r_aload_n (pc := 82) C dX12_layChain_82 0 rfl ?_
      refine mg_order (pc := 83) C dX12_layChain_83 ?_
      refine r_iload (pc := 86) C dX12_layChain_86 3 rfl ?_
      refine ml_order (pc := 88) C dX12_layChain_88 ?_
      refine ms_link (pc := 89) C dX12_layChain_89 (fun S10 => ?_)
      refine r_aload_n (pc := 90) C dX12_layChain_90 0 rfl ?_
      refine r_dup (pc := 91) C dX12_layChain_91 rfl ?_
      refine mg_links (pc := 92) C dX12_layChain_92 ?_
      refine r_iconst (pc := 95) C dX12_layChain_95 (v := 1) (by decide) ?_
      refine r_iadd (pc := 96) C dX12_layChain_96 ?_
      refine mp_links (pc := 97) C dX12_layChain_97 (fun S11 => ?_)
      refine r_iinc (pc := 100) C dX12_layChain_100 (v := 1) (lv' := fun x12 => [(0, .ref (q 0)), (1, .int c1), (4, .int c4), (5, .int x12)]) 3 rfl (by decide) (by decide) [1, 2, 3, 0] (fun _ => rfl) (fun x12 => ?_)
      refine r_goto 21 (pc := 103) C dX12_layChain_103 (by decide) ?_
      exact ih7 S11 x12
    · refine r_if_le 74 (pc := 32) C dX12_layChain_32 (by decide) ?_ ?_
      · exact hk14
      · refine r_aload_n (pc := 35) C dX12_layChain_35 0 rfl ?_
        refine r_iload_n (pc := 36) C dX12_layChain_36 1 rfl ?_
        refine r_aload_n (pc := 37) C dX12_layChain_37 0 rfl ?_
        refine r_aload_n (pc := 38) C dX12_layChain_38 0 rfl ?_
        refine mg_link (pc := 39) C dX12_layChain_39 ?_
        refine r_aload_n (pc := 42) C dX12_layChain_42 0 rfl ?_
        refine mg_links (pc := 43) C dX12_layChain_43 ?_
        refine r_iconst (pc := 46) C dX12_layChain_46 (v := 1) (by decide) ?_
        refine r_isub (pc := 47) C dX12_layChain_47 ?_
        refine ml_link (pc := 48) C dX12_layChain_48 ?_
        refine r_iconst (pc := 49) C dX12_layChain_49 (v := 5) (by decide) ?_
        refine r_cVpi (As := [.int (S5.2 19 ((S5.1 20) - 1).toNatClampNeg), .int 5]) (st := [.int c1, .ref (q 0)]) (pc := 50) C (fun _ h => c_X12_of h) kY_X12_of kw_7_27 kw_0_64 kw_7_25 rfl ⟨Nat.le_of_ble_eq_true rfl, Nat.le_of_ble_eq_true rfl⟩ rfl rfl ⟨Nat.zero_le _, Nat.zero_le _⟩ 0 rfl rfl rfl (Nat.le_of_ble_eq_true rfl) dX12_layChain_50 (fun x15 => ?_)
        refine r_aload_n (pc := 53) C dX12_layChain_53 0 rfl ?_
        refine r_aload_n (pc := 54) C dX12_layChain_54 0 rfl ?_
        refine mg_order (pc := 55) C dX12_layChain_55 ?_
        refine r_iload (pc := 58) C dX12_layChain_58 3 rfl ?_
        refine ml_order (pc := 60) C dX12_layChain_60 ?_
        refine r_iconst (pc := 61) C dX12_layChain_61 (v := 5) (by decide) ?_
        refine r_cVpi (As := [.int (S5.2 18 x4.toNatClampNeg), .int 5]) (st := [.int x15, .int c1, .ref (q 0)]) (pc := 62) C (fun _ h => c_X12_of h) kY_X12_of kw_7_27 kw_0_64 kw_7_25 rfl ⟨Nat.le_of_ble_eq_true rfl, Nat.le_of_ble_eq_true rfl⟩ rfl rfl ⟨Nat.zero_le _, Nat.zero_le _⟩ 0 rfl rfl rfl (Nat.le_of_ble_eq_true rfl) dX12_layChain_62 (fun x16 => ?_)
        refine r_cVpz (As := [.int c1, .int x15, .int x16]) (st := []) (pc := 65) C (fun _ h => c_X12_isBetter h) kY_X12_isBetter kw_7_118 kw_0_75 kw_7_116 rfl ⟨Nat.le_of_ble_eq_true rfl, Nat.le_of_ble_eq_true rfl⟩ rfl rfl ⟨Nat.zero_le _, Nat.zero_le _⟩ 0 rfl rfl rfl (Nat.le_of_ble_eq_true rfl) dX12_layChain_65 (fun x17 => ?_)
        refine r_ifb_eq 74 (pc := 68) C dX12_layChain_68 (by decide) ?_ ?_
        · exact hk14
        · refine r_goto 100 (pc := 71) C dX12_layChain_71 (by decide) ?_
          refine r_iinc (pc := 100) C dX12_layChain_100 (v := 1) (lv' := fun x18 => [(0, .ref (q 0)), (1, .int c1), (4, .int c4), (5, .int x18)]) 3 rfl (by decide) (by decide) [1, 2, 3, 0] (fun _ => rfl) (fun x18 => ?_)
          refine r_goto 21 (pc := 103) C dX12_layChain_103 (by decide) ?_
          exact ih7 S5 x18
set_option maxRecDepth 100000 in
theorem v_X12_layChain_21 {S0 : MS} {c1 : Int32} {c4 : Int32} {k8 : MS → Option (MS)} (hk9 : ∀ (S19 : MS), (fI [20] [18, 19] S0) S19 → jf (fI [20] [18, 19] S0) id (k8 S19)) : ∀ (n : Nat) (S5 : MS) (x4 : Int32), (fI [20] [18, 19] S0) S5 → jf (fI [20] [18, 19] S0) id (L_X12_layChain_21 c1 c4 k8 n S5 x4) := by
  refine f_lo2 (I := (fI [20] [18, 19] S0)) (fun S5 x4 => S5) (fun rec6 ih7 S5 x4 hS5 => ?_)
  refine f_ite ?_ ?_
  · exact hk9 S5 hS5
  · refine f_jm0 hS5 (fun  hS5 => ?_) (fun k13 hk14 => ?_)
    · refine f_chk ?_
      refine f_chk (f_ltS (fI_sa hS5 (by decide)) (fun S10 hS10 => ?_))
      refine f_ltS (fI_si hS10 (by decide)) (fun S11 hS11 => ?_)
      refine f_lt (fun x12 => ?_)
      exact ih7 S11 x12 hS11
    · refine f_ite ?_ ?_
      · exact hk14 hS5
      · refine f_chk ?_
        refine f_bp (fun x15 => ?_)
        refine f_chk ?_
        refine f_bp (fun x16 => ?_)
        refine f_bp (fun x17 => ?_)
        refine f_ite ?_ ?_
        · refine f_lt (fun x18 => ?_)
          exact ih7 S5 x18 hS5
        · exact hk14 hS5
def f_X12_layChain (S : MS) (a1 : Int32) (a2 : Int32) (a3 : Int32) : Option (MS) :=
  bp (f_X12_layOrder S a1 a2 a3) (fun S1 =>
  lt (S1.1 20) fun x2 =>
  lt (si S1 20 0) fun S3 =>
  L_X12_layChain_21 a1 x2 (fun S20 =>
  some S20) FU S3 0)
set_option maxRecDepth 100000 in
set_option maxHeartbeats 4000000 in
theorem c_X12_layChain {g : KG} {q : Nat → Nat} {S : MS} {a1 : Int32} {a2 : Int32} {a3 : Int32} {S' : MS} (h : f_X12_layChain S a1 a2 a3 = some S') : ∀ l, kM l yX12_layChain cX12_layChain 6 none rm_X12_layChain g [.ref (q 0), .int a1, .int a2, .int a3] (mw g q S) (mw g q S') (none) 0 0 := by
  refine k_open_v (own := "MarkChainsModel") (by decide) rfl (Nat.le_of_ble_eq_true rfl) (fun X C hR => ?_)
  refine (?_ : jJ X g (S' : MS) (mw g q S) 0 0 0 [(0, .ref (q 0)), (1, .int a1), (2, .int a2), (3, .int a3)] [] (f_X12_layChain S a1 a2 a3)) h
  unfold f_X12_layChain
  refine r_aload_n (pc := 0) C dX12_layChain_0 0 rfl ?_
  refine r_iload_n (pc := 1) C dX12_layChain_1 1 rfl ?_
  refine r_iload_n (pc := 2) C dX12_layChain_2 2 rfl ?_
  refine r_iload_n (pc := 3) C dX12_layChain_3 3 rfl ?_
  refine r_cVwv (As := [.int a1, .int a2, .int a3]) (st := []) (wf := mw g q) (pc := 4) C (fun _ h => c_X12_layOrder h) kY_X12_layOrder kw_7_110 kw_0_73 kw_7_108 rfl ⟨Nat.le_of_ble_eq_true rfl, Nat.le_of_ble_eq_true rfl⟩ rfl rfl ⟨Nat.zero_le _, Nat.zero_le _⟩ 0 rfl rfl rfl (Nat.le_of_ble_eq_true rfl) dX12_layChain_4 (fun S1 => ?_)
  refine r_aload_n (pc := 7) C dX12_layChain_7 0 rfl ?_
  refine mg_links (pc := 8) C dX12_layChain_8 ?_
  refine r_istoreV (pc := 11) C dX12_layChain_11 (lv' := fun x2 => [(0, .ref (q 0)), (1, .int a1), (2, .int a2), (3, .int a3), (4, .int x2)]) (by decide) [1, 2, 3, 4, 0] (fun _ => rfl) (fun x2 => ?_)
  refine r_aload_n (pc := 13) C dX12_layChain_13 0 rfl ?_
  refine r_iconst (pc := 14) C dX12_layChain_14 (v := 0) (by decide) ?_
  refine mp_links (pc := 15) C dX12_layChain_15 (fun S3 => ?_)
  refine r_iconst (pc := 18) C dX12_layChain_18 (v := 0) (by decide) ?_
  refine r_istore (pc := 19) C dX12_layChain_19 (lv' := [(0, .ref (q 0)), (1, .int a1), (2, .int a2), (3, .int a3), (4, .int x2), (5, .int 0)]) (by decide) [1, 2, 3, 4, 5, 0] rfl ?_
  refine r_sub (lv' := [(0, .ref (q 0)), (1, .int a1), (4, .int x2), (5, .int 0)]) [0, 1, 4, 5] rfl ?_
  refine l_X12_layChain_21 C hR a1 x2 _ (fun S20 => ?_) FU S3 0
  exact r_retWV (wf := mw g q) hR (pc := 106) dX12_layChain_106
set_option maxRecDepth 100000 in
theorem w_X12_layChain {S : MS} {a1 : Int32} {a2 : Int32} {a3 : Int32} {S' : MS} (h : f_X12_layChain S a1 a2 a3 = some S') : fI [20] [18, 19] S S' := by
  have hS : fI [20] [18, 19] S S := fI_rf
  refine (?_ : jf (fI [20] [18, 19] S) id (f_X12_layChain S a1 a2 a3)) _ h
  unfold f_X12_layChain
  refine f_bpS (fun _ h => fI_tr hS (w_X12_layOrder h) (by decide) (by decide)) (fun S1 hS1 => ?_)
  refine f_lt (fun x2 => ?_)
  refine f_ltS (fI_si hS1 (by decide)) (fun S3 hS3 => ?_)
  refine v_X12_layChain_21 (fun S20 hS20 => ?_) FU S3 0 hS3
  exact f_some hS20
abbrev rm_X12_isLinked : Room := { frames := 0, cells := 0, slots := 0, locals := 0 }
theorem kY_X12_isLinked : kY yX12_isLinked cX12_isLinked 3 (some .boolean) 1 := ⟨kw_1_13, kw_7_167, by decide, by decide, by decide +kernel⟩
def L_X12_isLinked_2 (S : MS) (c1 : Int32) (k4 : Option (Bool)) : Nat → Int32 → Option (Bool) := lo1 fun rec2 x1 =>
  (if (S.1 20) ≤ x1 then
  k4
 else
  chk x1 60 (
  (if (S.2 19 x1.toNatClampNeg) = c1 then
  some true
 else
  lt (x1 + 1) fun x6 =>
  rec2 x6)))
set_option maxRecDepth 100000 in
set_option maxHeartbeats 4000000 in
theorem l_X12_isLinked_2 {X : KX} {g : KG} {q : Nat → Nat} {res : Bool} {S : MS} (C : kC X g cX12_isLinked "MarkChainsModel" rm_X12_isLinked 3) (hR : ∀ (pc : Nat) (lv : List (Nat × Value)), decode cX12_isLinked pc = .ok (.ireturn, 1) → jW X g (mw g q S) 0 0 pc lv [.int (b2 res)]) (c1 : Int32) (k4 : Option (Bool)) (hk5 : jJ X g res (mw g q S) 0 0 28 [] [] k4) : ∀ (n : Nat) (x1 : Int32), jJ X g res (mw g q S) 0 0 2 [(0, .ref (q 0)), (1, .int c1), (2, .int x1)] [] (L_X12_isLinked_2 S c1 k4 n x1) := by
  refine r_lo1 (fun x1 => mw g q S) (fun x1 => [(0, .ref (q 0)), (1, .int c1), (2, .int x1)]) (fun rec2 ih3 x1 => ?_)
  refine r_iload_n (pc := 2) C dX12_isLinked_2 2 rfl ?_
  refine r_aload_n (pc := 3) C dX12_isLinked_3 0 rfl ?_
  refine mg_links (pc := 4) C dX12_isLinked_4 ?_
  refine r_icmp_ge 28 (pc := 7) C dX12_isLinked_7 (by decide) ?_ ?_
  · refine r_sub (lv' := []) [] rfl ?_
    exact hk5
  · refine r_aload_n (pc := 10) C dX12_isLinked_10 0 rfl ?_
    refine mg_link (pc := 11) C dX12_isLinked_11 ?_
    refine r_iload_n (pc := 14) C dX12_isLinked_14 2 rfl ?_
    refine ml_link (pc := 15) C dX12_isLinked_15 ?_
    refine r_iload_n (pc := 16) C dX12_isLinked_16 1 rfl ?_
    refine r_icmp_ne 22 (pc := 17) C dX12_isLinked_17 (by decide) ?_ ?_
    · refine r_iinc (pc := 22) C dX12_isLinked_22 (v := 1) (lv' := fun x6 => [(0, .ref (q 0)), (1, .int c1), (2, .int x6)]) 2 rfl (by decide) (by decide) [1, 2, 0] (fun _ => rfl) (fun x6 => ?_)
      refine r_goto 2 (pc := 25) C dX12_isLinked_25 (by decide) ?_
      exact ih3 x6
    · refine r_iconst (pc := 20) C dX12_isLinked_20 (v := 1) (by decide) ?_
      exact r_retPZ hR rfl (pc := 21) dX12_isLinked_21
def f_X12_isLinked (S : MS) (a1 : Int32) : Option (Bool) :=
  L_X12_isLinked_2 S a1 (some false) FU 0
set_option maxRecDepth 100000 in
set_option maxHeartbeats 4000000 in
theorem c_X12_isLinked {g : KG} {q : Nat → Nat} {S : MS} {a1 : Int32} {r : Bool} (h : f_X12_isLinked S a1 = some r) : ∀ l, kM l yX12_isLinked cX12_isLinked 3 (some .boolean) rm_X12_isLinked g [.ref (q 0), .int a1] (mw g q S) (mw g q S) (some (.int (b2 r))) 0 0 := by
  refine k_open_z (own := "MarkChainsModel") (by decide) rfl (Nat.le_of_ble_eq_true rfl) (fun X C hR => ?_)
  refine (?_ : jJ X g (r : Bool) (mw g q S) 0 0 0 [(0, .ref (q 0)), (1, .int a1)] [] (f_X12_isLinked S a1)) h
  unfold f_X12_isLinked
  refine r_iconst (pc := 0) C dX12_isLinked_0 (v := 0) (by decide) ?_
  refine r_istore_n (pc := 1) C dX12_isLinked_1 (lv' := [(0, .ref (q 0)), (1, .int a1), (2, .int 0)]) (by decide) [1, 2, 0] rfl ?_
  refine l_X12_isLinked_2 C hR a1 _ (?_) FU 0
  refine r_iconst (pc := 28) C dX12_isLinked_28 (v := 0) (by decide) ?_
  exact r_retPZ hR rfl (pc := 29) dX12_isLinked_29
abbrev rm_X12_canAsk : Room := { frames := 2, cells := 0, slots := 0, locals := 42 }
theorem kY_X12_canAsk : kY yX12_canAsk cX12_canAsk 4 (some .boolean) 3 := ⟨kw_1_13, kw_7_103, by decide, by decide, by decide +kernel⟩
def f_X12_canAsk (S : MS) (a1 : Int32) (a2 : Int32) (a3 : Int32) : Option (Bool) :=
  chk 0 1177 (
  bp (f_X12_isIn a1 0 ((S.2 0 (0 : Int32).toNatClampNeg) - 1)) (fun x1 =>
  (if x1 = true then
  bp (f_X12_isScope a2) (fun x2 =>
  (if x2 = true then
  bp (f_X12_isIn a3 0 20000) (fun x3 =>
  (if x3 = true then
  some true
 else
  some false))
 else
  some false))
 else
  some false)))
set_option maxRecDepth 100000 in
set_option maxHeartbeats 4000000 in
theorem c_X12_canAsk {g : KG} {q : Nat → Nat} {S : MS} {a1 : Int32} {a2 : Int32} {a3 : Int32} {r : Bool} (h : f_X12_canAsk S a1 a2 a3 = some r) : ∀ l, kM l yX12_canAsk cX12_canAsk 4 (some .boolean) rm_X12_canAsk g [.ref (q 0), .int a1, .int a2, .int a3] (mw g q S) (mw g q S) (some (.int (b2 r))) 0 0 := by
  refine k_open_z (own := "MarkChainsModel") (by decide) rfl (Nat.le_of_ble_eq_true rfl) (fun X C hR => ?_)
  refine (?_ : jJ X g (r : Bool) (mw g q S) 0 0 0 [(0, .ref (q 0)), (1, .int a1), (2, .int a2), (3, .int a3)] [] (f_X12_canAsk S a1 a2 a3)) h
  unfold f_X12_canAsk
  refine r_iload_n (pc := 0) C dX12_canAsk_0 1 rfl ?_
  refine r_iconst (pc := 1) C dX12_canAsk_1 (v := 0) (by decide) ?_
  refine r_aload_n (pc := 2) C dX12_canAsk_2 0 rfl ?_
  refine mg_all (pc := 3) C dX12_canAsk_3 ?_
  refine r_iconst (pc := 6) C dX12_canAsk_6 (v := 0) (by decide) ?_
  refine ml_all (pc := 7) C dX12_canAsk_7 ?_
  refine r_iconst (pc := 8) C dX12_canAsk_8 (v := 1) (by decide) ?_
  refine r_isub (pc := 9) C dX12_canAsk_9 ?_
  refine r_cSpz (As := [.int a1, .int 0, .int ((S.2 0 (0 : Int32).toNatClampNeg) - 1)]) (st := []) (pc := 10) C (fun _ h => c_X12_isIn h) kY_X12_isIn kw_6_124 kw_6_123 rfl ⟨Nat.le_of_ble_eq_true rfl, Nat.le_of_ble_eq_true rfl⟩ rfl rfl ⟨Nat.zero_le _, Nat.zero_le _⟩ rfl (Nat.le_of_ble_eq_true rfl) dX12_canAsk_10 (fun x1 => ?_)
  refine r_ifb_eq 38 (pc := 13) C dX12_canAsk_13 (by decide) ?_ ?_
  · refine r_iconst (pc := 38) C dX12_canAsk_38 (v := 0) (by decide) ?_
    exact r_retPZ hR rfl (pc := 39) dX12_canAsk_39
  · refine r_iload_n (pc := 16) C dX12_canAsk_16 2 rfl ?_
    refine r_cSpz (As := [.int a2]) (st := []) (pc := 17) C (fun _ h => c_X12_isScope h) kY_X12_isScope kw_7_90 kw_7_89 rfl ⟨Nat.le_of_ble_eq_true rfl, Nat.le_of_ble_eq_true rfl⟩ rfl rfl ⟨Nat.zero_le _, Nat.zero_le _⟩ rfl (Nat.le_of_ble_eq_true rfl) dX12_canAsk_17 (fun x2 => ?_)
    refine r_ifb_eq 38 (pc := 20) C dX12_canAsk_20 (by decide) ?_ ?_
    · refine r_iconst (pc := 38) C dX12_canAsk_38 (v := 0) (by decide) ?_
      exact r_retPZ hR rfl (pc := 39) dX12_canAsk_39
    · refine r_iload_n (pc := 23) C dX12_canAsk_23 3 rfl ?_
      refine r_iconst (pc := 24) C dX12_canAsk_24 (v := 0) (by decide) ?_
      refine r_sipush (pc := 25) C dX12_canAsk_25 (v := 20000) (by decide) ?_
      refine r_cSpz (As := [.int a3, .int 0, .int 20000]) (st := []) (pc := 28) C (fun _ h => c_X12_isIn h) kY_X12_isIn kw_6_124 kw_6_123 rfl ⟨Nat.le_of_ble_eq_true rfl, Nat.le_of_ble_eq_true rfl⟩ rfl rfl ⟨Nat.zero_le _, Nat.zero_le _⟩ rfl (Nat.le_of_ble_eq_true rfl) dX12_canAsk_28 (fun x3 => ?_)
      refine r_ifb_eq 38 (pc := 31) C dX12_canAsk_31 (by decide) ?_ ?_
      · refine r_iconst (pc := 38) C dX12_canAsk_38 (v := 0) (by decide) ?_
        exact r_retPZ hR rfl (pc := 39) dX12_canAsk_39
      · refine r_iconst (pc := 34) C dX12_canAsk_34 (v := 1) (by decide) ?_
        refine r_goto 39 (pc := 35) C dX12_canAsk_35 (by decide) ?_
        exact r_retPZ hR rfl (pc := 39) dX12_canAsk_39
abbrev rm_X12_value : Room := { frames := 2, cells := 0, slots := 0, locals := 42 }
theorem kY_X12_value : kY yX12_value cX12_value 2 (some .int) 1 := ⟨kw_1_13, kw_7_131, by decide, by decide, by decide +kernel⟩
def f_X12_value (S : MS) (a1 : Int32) : Option (Int32) :=
  chk a1 60 (
  bp (f_X12_of S (S.2 19 a1.toNatClampNeg) 5) (fun x1 =>
  some x1))
set_option maxRecDepth 100000 in
set_option maxHeartbeats 4000000 in
theorem c_X12_value {g : KG} {q : Nat → Nat} {S : MS} {a1 : Int32} {r : Int32} (h : f_X12_value S a1 = some r) : ∀ l, kM l yX12_value cX12_value 2 (some .int) rm_X12_value g [.ref (q 0), .int a1] (mw g q S) (mw g q S) (some (.int r)) 0 0 := by
  refine k_open_i (own := "MarkChainsModel") (by decide) rfl (Nat.le_of_ble_eq_true rfl) (fun X C hR => ?_)
  refine (?_ : jJ X g (r : Int32) (mw g q S) 0 0 0 [(0, .ref (q 0)), (1, .int a1)] [] (f_X12_value S a1)) h
  unfold f_X12_value
  refine r_aload_n (pc := 0) C dX12_value_0 0 rfl ?_
  refine r_aload_n (pc := 1) C dX12_value_1 0 rfl ?_
  refine mg_link (pc := 2) C dX12_value_2 ?_
  refine r_iload_n (pc := 5) C dX12_value_5 1 rfl ?_
  refine ml_link (pc := 6) C dX12_value_6 ?_
  refine r_iconst (pc := 7) C dX12_value_7 (v := 5) (by decide) ?_
  refine r_cVpi (As := [.int (S.2 19 a1.toNatClampNeg), .int 5]) (st := []) (pc := 8) C (fun _ h => c_X12_of h) kY_X12_of kw_7_27 kw_0_64 kw_7_25 rfl ⟨Nat.le_of_ble_eq_true rfl, Nat.le_of_ble_eq_true rfl⟩ rfl rfl ⟨Nat.zero_le _, Nat.zero_le _⟩ 0 rfl rfl rfl (Nat.le_of_ble_eq_true rfl) dX12_value_8 (fun x1 => ?_)
  exact r_retPI hR (pc := 11) dX12_value_11
abbrev rm_X12_chain : Room := { frames := 6, cells := 0, slots := 0, locals := 136 }
theorem kY_X12_chain : kY yX12_chain cX12_chain 5 (some .int) 4 := ⟨kw_1_13, kw_7_99, by decide, by decide, by decide +kernel⟩
def f_X12_chain (S : MS) (a1 : Int32) (a2 : Int32) (a3 : Int32) (a4 : Int32) : Option (Int32 × MS) :=
  bp (f_X12_canAsk S a1 a2 a3) (fun x1 =>
  (if x1 = true then
  bp (f_X12_layChain S a1 a2 a3) (fun S2 =>
  (if a4 = (-1) then
  some (S2.1 20, S2)
 else
  bp (f_X12_isIn a4 0 ((S2.1 20) - 1)) (fun x3 =>
  (if x3 = true then
  chk a4 60 (
  some (S2.2 19 a4.toNatClampNeg, S2))
 else
  some ((-2), S2)))))
 else
  some ((-2), S)))
set_option maxRecDepth 100000 in
set_option maxHeartbeats 4000000 in
theorem c_X12_chain {g : KG} {q : Nat → Nat} {S : MS} {a1 : Int32} {a2 : Int32} {a3 : Int32} {a4 : Int32} {r : Int32} {S' : MS} (h : f_X12_chain S a1 a2 a3 a4 = some (r, S')) : ∀ l, kM l yX12_chain cX12_chain 5 (some .int) rm_X12_chain g [.ref (q 0), .int a1, .int a2, .int a3, .int a4] (mw g q S) (mw g q S') (some (.int r)) 0 0 := by
  refine k_open_i (own := "MarkChainsModel") (by decide) rfl (Nat.le_of_ble_eq_true rfl) (fun X C hR => ?_)
  refine (?_ : jJ X g ((r, S') : Int32 × MS) (mw g q S) 0 0 0 [(0, .ref (q 0)), (1, .int a1), (2, .int a2), (3, .int a3), (4, .int a4)] [] (f_X12_chain S a1 a2 a3 a4)) h
  unfold f_X12_chain
  refine r_aload_n (pc := 0) C dX12_chain_0 0 rfl ?_
  refine r_iload_n (pc := 1) C dX12_chain_1 1 rfl ?_
  refine r_iload_n (pc := 2) C dX12_chain_2 2 rfl ?_
  refine r_iload_n (pc := 3) C dX12_chain_3 3 rfl ?_
  refine r_cVpz (As := [.int a1, .int a2, .int a3]) (st := []) (pc := 4) C (fun _ h => c_X12_canAsk h) kY_X12_canAsk kw_7_102 kw_0_71 kw_7_100 rfl ⟨Nat.le_of_ble_eq_true rfl, Nat.le_of_ble_eq_true rfl⟩ rfl rfl ⟨Nat.zero_le _, Nat.zero_le _⟩ 0 rfl rfl rfl (Nat.le_of_ble_eq_true rfl) dX12_chain_4 (fun x1 => ?_)
  refine r_ifb_ne 13 (pc := 7) C dX12_chain_7 (by decide) ?_ ?_
  · refine r_aload_n (pc := 13) C dX12_chain_13 0 rfl ?_
    refine r_iload_n (pc := 14) C dX12_chain_14 1 rfl ?_
    refine r_iload_n (pc := 15) C dX12_chain_15 2 rfl ?_
    refine r_iload_n (pc := 16) C dX12_chain_16 3 rfl ?_
    refine r_cVwv (As := [.int a1, .int a2, .int a3]) (st := []) (wf := mw g q) (pc := 17) C (fun _ h => c_X12_layChain h) kY_X12_layChain kw_7_106 kw_0_72 kw_7_104 rfl ⟨Nat.le_of_ble_eq_true rfl, Nat.le_of_ble_eq_true rfl⟩ rfl rfl ⟨Nat.zero_le _, Nat.zero_le _⟩ 0 rfl rfl rfl (Nat.le_of_ble_eq_true rfl) dX12_chain_17 (fun S2 => ?_)
    refine r_iload (pc := 20) C dX12_chain_20 4 rfl ?_
    refine r_iconst (pc := 22) C dX12_chain_22 (v := (-1)) (by decide) ?_
    refine r_icmp_ne 33 (pc := 23) C dX12_chain_23 (by decide) ?_ ?_
    · refine r_iload (pc := 33) C dX12_chain_33 4 rfl ?_
      refine r_iconst (pc := 35) C dX12_chain_35 (v := 0) (by decide) ?_
      refine r_aload_n (pc := 36) C dX12_chain_36 0 rfl ?_
      refine mg_links (pc := 37) C dX12_chain_37 ?_
      refine r_iconst (pc := 40) C dX12_chain_40 (v := 1) (by decide) ?_
      refine r_isub (pc := 41) C dX12_chain_41 ?_
      refine r_cSpz (As := [.int a4, .int 0, .int ((S2.1 20) - 1)]) (st := []) (pc := 42) C (fun _ h => c_X12_isIn h) kY_X12_isIn kw_6_124 kw_6_123 rfl ⟨Nat.le_of_ble_eq_true rfl, Nat.le_of_ble_eq_true rfl⟩ rfl rfl ⟨Nat.zero_le _, Nat.zero_le _⟩ rfl (Nat.le_of_ble_eq_true rfl) dX12_chain_42 (fun x3 => ?_)
      refine r_ifb_eq 58 (pc := 45) C dX12_chain_45 (by decide) ?_ ?_
      · refine r_bipush (pc := 58) C dX12_chain_58 (v := (-2)) (by decide) ?_
        exact r_retWI (wf := mw g q) hR (pc := 60) dX12_chain_60
      · refine r_aload_n (pc := 48) C dX12_chain_48 0 rfl ?_
        refine mg_link (pc := 49) C dX12_chain_49 ?_
        refine r_iload (pc := 52) C dX12_chain_52 4 rfl ?_
        refine ml_link (pc := 54) C dX12_chain_54 ?_
        refine r_goto 60 (pc := 55) C dX12_chain_55 (by decide) ?_
        exact r_retWI (wf := mw g q) hR (pc := 60) dX12_chain_60
    · refine r_aload_n (pc := 26) C dX12_chain_26 0 rfl ?_
      refine mg_links (pc := 27) C dX12_chain_27 ?_
      refine r_goto 60 (pc := 30) C dX12_chain_30 (by decide) ?_
      exact r_retWI (wf := mw g q) hR (pc := 60) dX12_chain_60
  · refine r_bipush (pc := 10) C dX12_chain_10 (v := (-2)) (by decide) ?_
    exact r_retWI (wf := mw g q) hR (pc := 12) dX12_chain_12
set_option maxRecDepth 100000 in
theorem w_X12_chain {S : MS} {a1 : Int32} {a2 : Int32} {a3 : Int32} {a4 : Int32} {r : Int32} {S' : MS} (h : f_X12_chain S a1 a2 a3 a4 = some (r, S')) : fI [20] [18, 19] S S' := by
  have hS : fI [20] [18, 19] S S := fI_rf
  refine (?_ : jf (fI [20] [18, 19] S) Prod.snd (f_X12_chain S a1 a2 a3 a4)) _ h
  unfold f_X12_chain
  refine f_bp (fun x1 => ?_)
  refine f_ite ?_ ?_
  · refine f_bpS (fun _ h => fI_tr hS (w_X12_layChain h) (by decide) (by decide)) (fun S2 hS2 => ?_)
    refine f_ite ?_ ?_
    · exact f_some hS2
    · refine f_bp (fun x3 => ?_)
      refine f_ite ?_ ?_
      · refine f_chk ?_
        exact f_some hS2
      · exact f_some hS2
  · exact f_some hS
abbrev rm_X12_recordNow : Room := { frames := 3, cells := 0, slots := 0, locals := 63 }
theorem kY_X12_recordNow : kY yX12_recordNow cX12_recordNow 1 (some .int) 0 := ⟨kw_1_13, kw_7_127, by decide, by decide, by decide +kernel⟩
def f_X12_recordNow (S : MS) : Option (Int32) :=
  (if (S.1 20) = 0 then
  some (-1)
 else
  bp (f_X12_value S ((S.1 20) - 1)) (fun x1 =>
  some x1))
set_option maxRecDepth 100000 in
set_option maxHeartbeats 4000000 in
theorem c_X12_recordNow {g : KG} {q : Nat → Nat} {S : MS}  {r : Int32} (h : f_X12_recordNow S = some r) : ∀ l, kM l yX12_recordNow cX12_recordNow 1 (some .int) rm_X12_recordNow g [.ref (q 0)] (mw g q S) (mw g q S) (some (.int r)) 0 0 := by
  refine k_open_i (own := "MarkChainsModel") (by decide) rfl (Nat.le_of_ble_eq_true rfl) (fun X C hR => ?_)
  refine (?_ : jJ X g (r : Int32) (mw g q S) 0 0 0 [(0, .ref (q 0))] [] (f_X12_recordNow S)) h
  unfold f_X12_recordNow
  refine r_aload_n (pc := 0) C dX12_recordNow_0 0 rfl ?_
  refine mg_links (pc := 1) C dX12_recordNow_1 ?_
  refine r_if_ne 11 (pc := 4) C dX12_recordNow_4 (by decide) ?_ ?_
  · refine r_aload_n (pc := 11) C dX12_recordNow_11 0 rfl ?_
    refine r_aload_n (pc := 12) C dX12_recordNow_12 0 rfl ?_
    refine mg_links (pc := 13) C dX12_recordNow_13 ?_
    refine r_iconst (pc := 16) C dX12_recordNow_16 (v := 1) (by decide) ?_
    refine r_isub (pc := 17) C dX12_recordNow_17 ?_
    refine r_cVpi (As := [.int ((S.1 20) - 1)]) (st := []) (pc := 18) C (fun _ h => c_X12_value h) kY_X12_value kw_7_130 kw_0_77 kw_7_128 rfl ⟨Nat.le_of_ble_eq_true rfl, Nat.le_of_ble_eq_true rfl⟩ rfl rfl ⟨Nat.zero_le _, Nat.zero_le _⟩ 0 rfl rfl rfl (Nat.le_of_ble_eq_true rfl) dX12_recordNow_18 (fun x1 => ?_)
    exact r_retPI hR (pc := 21) dX12_recordNow_21
  · refine r_iconst (pc := 7) C dX12_recordNow_7 (v := (-1)) (by decide) ?_
    refine r_goto 21 (pc := 8) C dX12_recordNow_8 (by decide) ?_
    exact r_retPI hR (pc := 21) dX12_recordNow_21
abbrev rm_X12_record : Room := { frames := 6, cells := 0, slots := 0, locals := 136 }
theorem kY_X12_record : kY yX12_record cX12_record 4 (some .int) 3 := ⟨kw_1_13, kw_7_123, by decide, by decide, by decide +kernel⟩
def f_X12_record (S : MS) (a1 : Int32) (a2 : Int32) (a3 : Int32) : Option (Int32 × MS) :=
  bp (f_X12_canAsk S a1 a2 a3) (fun x1 =>
  (if x1 = true then
  bp (f_X12_layChain S a1 a2 a3) (fun S2 =>
  bp (f_X12_recordNow S2) (fun x3 =>
  some (x3, S2)))
 else
  some ((-2), S)))
set_option maxRecDepth 100000 in
set_option maxHeartbeats 4000000 in
theorem c_X12_record {g : KG} {q : Nat → Nat} {S : MS} {a1 : Int32} {a2 : Int32} {a3 : Int32} {r : Int32} {S' : MS} (h : f_X12_record S a1 a2 a3 = some (r, S')) : ∀ l, kM l yX12_record cX12_record 4 (some .int) rm_X12_record g [.ref (q 0), .int a1, .int a2, .int a3] (mw g q S) (mw g q S') (some (.int r)) 0 0 := by
  refine k_open_i (own := "MarkChainsModel") (by decide) rfl (Nat.le_of_ble_eq_true rfl) (fun X C hR => ?_)
  refine (?_ : jJ X g ((r, S') : Int32 × MS) (mw g q S) 0 0 0 [(0, .ref (q 0)), (1, .int a1), (2, .int a2), (3, .int a3)] [] (f_X12_record S a1 a2 a3)) h
  unfold f_X12_record
  refine r_aload_n (pc := 0) C dX12_record_0 0 rfl ?_
  refine r_iload_n (pc := 1) C dX12_record_1 1 rfl ?_
  refine r_iload_n (pc := 2) C dX12_record_2 2 rfl ?_
  refine r_iload_n (pc := 3) C dX12_record_3 3 rfl ?_
  refine r_cVpz (As := [.int a1, .int a2, .int a3]) (st := []) (pc := 4) C (fun _ h => c_X12_canAsk h) kY_X12_canAsk kw_7_102 kw_0_71 kw_7_100 rfl ⟨Nat.le_of_ble_eq_true rfl, Nat.le_of_ble_eq_true rfl⟩ rfl rfl ⟨Nat.zero_le _, Nat.zero_le _⟩ 0 rfl rfl rfl (Nat.le_of_ble_eq_true rfl) dX12_record_4 (fun x1 => ?_)
  refine r_ifb_ne 13 (pc := 7) C dX12_record_7 (by decide) ?_ ?_
  · refine r_aload_n (pc := 13) C dX12_record_13 0 rfl ?_
    refine r_iload_n (pc := 14) C dX12_record_14 1 rfl ?_
    refine r_iload_n (pc := 15) C dX12_record_15 2 rfl ?_
    refine r_iload_n (pc := 16) C dX12_record_16 3 rfl ?_
    refine r_cVwv (As := [.int a1, .int a2, .int a3]) (st := []) (wf := mw g q) (pc := 17) C (fun _ h => c_X12_layChain h) kY_X12_layChain kw_7_106 kw_0_72 kw_7_104 rfl ⟨Nat.le_of_ble_eq_true rfl, Nat.le_of_ble_eq_true rfl⟩ rfl rfl ⟨Nat.zero_le _, Nat.zero_le _⟩ 0 rfl rfl rfl (Nat.le_of_ble_eq_true rfl) dX12_record_17 (fun S2 => ?_)
    refine r_aload_n (pc := 20) C dX12_record_20 0 rfl ?_
    refine r_cVpi (As := []) (st := []) (pc := 21) C (fun _ h => c_X12_recordNow h) kY_X12_recordNow kw_7_126 kw_0_76 kw_7_124 rfl ⟨Nat.le_of_ble_eq_true rfl, Nat.le_of_ble_eq_true rfl⟩ rfl rfl ⟨Nat.zero_le _, Nat.zero_le _⟩ 0 rfl rfl rfl (Nat.le_of_ble_eq_true rfl) dX12_record_21 (fun x3 => ?_)
    exact r_retWI (wf := mw g q) hR (pc := 24) dX12_record_24
  · refine r_bipush (pc := 10) C dX12_record_10 (v := (-2)) (by decide) ?_
    exact r_retWI (wf := mw g q) hR (pc := 12) dX12_record_12
set_option maxRecDepth 100000 in
theorem w_X12_record {S : MS} {a1 : Int32} {a2 : Int32} {a3 : Int32} {r : Int32} {S' : MS} (h : f_X12_record S a1 a2 a3 = some (r, S')) : fI [20] [18, 19] S S' := by
  have hS : fI [20] [18, 19] S S := fI_rf
  refine (?_ : jf (fI [20] [18, 19] S) Prod.snd (f_X12_record S a1 a2 a3)) _ h
  unfold f_X12_record
  refine f_bp (fun x1 => ?_)
  refine f_ite ?_ ?_
  · refine f_bpS (fun _ h => fI_tr hS (w_X12_layChain h) (by decide) (by decide)) (fun S2 hS2 => ?_)
    refine f_bp (fun x3 => ?_)
    exact f_some hS2
  · exact f_some hS
abbrev rm_X12_holdersNow : Room := { frames := 4, cells := 0, slots := 0, locals := 83 }
theorem kY_X12_holdersNow : kY yX12_holdersNow cX12_holdersNow 3 (some .int) 0 := ⟨kw_1_13, kw_7_139, by decide, by decide, by decide +kernel⟩
def L_X12_holdersNow_4 (S : MS) (k5 : Int32 → Option (Int32)) : Nat → Int32 → Int32 → Option (Int32) := lo2 fun rec3 x1 x2 =>
  (if (S.1 20) ≤ x2 then
  k5 x1
 else
  bp (f_X12_value S x2) (fun x7 =>
  bp (f_X12_recordNow S) (fun x8 =>
  jn1 (fun (x9 : Int32) =>
  lt (x1 ||| x9) fun x10 =>
  lt (x2 + 1) fun x11 =>
  rec3 x10 x11) (fun k12 =>
  (if x7 = x8 then
  chk x2 60 (
  bp (f_X12_of S (S.2 19 x2.toNatClampNeg) 1) (fun x14 =>
  k12 ((1 : Int32) <<< (x14 &&& 31))))
 else
  k12 0)))))
set_option maxRecDepth 100000 in
set_option maxHeartbeats 4000000 in
theorem l_X12_holdersNow_4 {X : KX} {g : KG} {q : Nat → Nat} {res : Int32} {S : MS} (C : kC X g cX12_holdersNow "MarkChainsModel" rm_X12_holdersNow 3) (hR : ∀ (pc : Nat) (lv : List (Nat × Value)), decode cX12_holdersNow pc = .ok (.ireturn, 1) → jW X g (mw g q S) 0 0 pc lv [.int res]) (k5 : Int32 → Option (Int32)) (hk6 : ∀ (x15 : Int32), jJ X g res (mw g q S) 0 0 50 [(1, .int x15)] [] (k5 x15)) : ∀ (n : Nat) (x1 : Int32) (x2 : Int32), jJ X g res (mw g q S) 0 0 4 [(0, .ref (q 0)), (1, .int x1), (2, .int x2)] [] (L_X12_holdersNow_4 S k5 n x1 x2) := by
  refine r_lo2 (fun x1 x2 => mw g q S) (fun x1 x2 => [(0, .ref (q 0)), (1, .int x1), (2, .int x2)]) (fun rec3 ih4 x1 x2 => ?_)
  refine r_iload_n (pc := 4) C dX12_holdersNow_4 2 rfl ?_
  refine r_aload_n (pc := 5) C dX12_holdersNow_5 0 rfl ?_
  refine mg_links (pc := 6) C dX12_holdersNow_6 ?_
  refine r_icmp_ge 50 (pc := 9) C dX12_holdersNow_9 (by decide) ?_ ?_
  · refine r_sub (lv' := [(1, .int x1)]) [1] rfl ?_
    exact hk6 x1
  · refine r_iload_n (pc := 12) C dX12_holdersNow_12 1 rfl ?_
    refine r_aload_n (pc := 13) C dX12_holdersNow_13 0 rfl ?_
    refine r_iload_n (pc := 14) C dX12_holdersNow_14 2 rfl ?_
    refine r_cVpi (As := [.int x2]) (st := [.int x1]) (pc := 15) C (fun _ h => c_X12_value h) kY_X12_value kw_7_130 kw_0_77 kw_7_128 rfl ⟨Nat.le_of_ble_eq_true rfl, Nat.le_of_ble_eq_true rfl⟩ rfl rfl ⟨Nat.zero_le _, Nat.zero_le _⟩ 0 rfl rfl rfl (Nat.le_of_ble_eq_true rfl) dX12_holdersNow_15 (fun x7 => ?_)
    refine r_aload_n (pc := 18) C dX12_holdersNow_18 0 rfl ?_
    refine r_cVpi (As := []) (st := [.int x7, .int x1]) (pc := 19) C (fun _ h => c_X12_recordNow h) kY_X12_recordNow kw_7_126 kw_0_76 kw_7_124 rfl ⟨Nat.le_of_ble_eq_true rfl, Nat.le_of_ble_eq_true rfl⟩ rfl rfl ⟨Nat.zero_le _, Nat.zero_le _⟩ 0 rfl rfl rfl (Nat.le_of_ble_eq_true rfl) dX12_holdersNow_19 (fun x8 => ?_)
    refine r_jn1 42 (fun (x9 : Int32) => mw g q S) (fun (x9 : Int32) => [(0, .ref (q 0)), (2, .int x2)]) (fun (x9 : Int32) => [.int x9, .int x1]) (fun x9 => ?_) (fun k12 hk13 => ?_)
    · refine r_ior (pc := 42) C dX12_holdersNow_42 ?_
      refine r_istoreV_n (pc := 43) C dX12_holdersNow_43 (lv' := fun x10 => [(0, .ref (q 0)), (1, .int x10), (2, .int x2)]) (by decide) [1, 0, 2] (fun _ => rfl) (fun x10 => ?_)
      refine r_iinc (pc := 44) C dX12_holdersNow_44 (v := 1) (lv' := fun x11 => [(0, .ref (q 0)), (1, .int x10), (2, .int x11)]) 2 rfl (by decide) (by decide) [1, 2, 0] (fun _ => rfl) (fun x11 => ?_)
      refine r_goto 4 (pc := 47) C dX12_holdersNow_47 (by decide) ?_
      exact ih4 x10 x11
    · refine r_icmp_ne 41 (pc := 22) C dX12_holdersNow_22 (by decide) ?_ ?_
      · refine r_iconst (pc := 41) C dX12_holdersNow_41 (v := 0) (by decide) ?_
        refine r_sub (lv' := [(0, .ref (q 0)), (2, .int x2)]) [0, 2] rfl ?_
        exact hk13 0
      · refine r_iconst (pc := 25) C dX12_holdersNow_25 (v := 1) (by decide) ?_
        refine r_aload_n (pc := 26) C dX12_holdersNow_26 0 rfl ?_
        refine r_aload_n (pc := 27) C dX12_holdersNow_27 0 rfl ?_
        refine mg_link (pc := 28) C dX12_holdersNow_28 ?_
        refine r_iload_n (pc := 31) C dX12_holdersNow_31 2 rfl ?_
        refine ml_link (pc := 32) C dX12_holdersNow_32 ?_
        refine r_iconst (pc := 33) C dX12_holdersNow_33 (v := 1) (by decide) ?_
        refine r_cVpi (As := [.int (S.2 19 x2.toNatClampNeg), .int 1]) (st := [.int 1, .int x1]) (pc := 34) C (fun _ h => c_X12_of h) kY_X12_of kw_7_27 kw_0_64 kw_7_25 rfl ⟨Nat.le_of_ble_eq_true rfl, Nat.le_of_ble_eq_true rfl⟩ rfl rfl ⟨Nat.zero_le _, Nat.zero_le _⟩ 0 rfl rfl rfl (Nat.le_of_ble_eq_true rfl) dX12_holdersNow_34 (fun x14 => ?_)
        refine r_ishl (pc := 37) C dX12_holdersNow_37 ?_
        refine r_goto 42 (pc := 38) C dX12_holdersNow_38 (by decide) ?_
        refine r_sub (lv' := [(0, .ref (q 0)), (2, .int x2)]) [0, 2] rfl ?_
        exact hk13 ((1 : Int32) <<< (x14 &&& 31))
def f_X12_holdersNow (S : MS) : Option (Int32) :=
  L_X12_holdersNow_4 S (fun x16 =>
  some x16) FU 0 0
set_option maxRecDepth 100000 in
set_option maxHeartbeats 4000000 in
theorem c_X12_holdersNow {g : KG} {q : Nat → Nat} {S : MS}  {r : Int32} (h : f_X12_holdersNow S = some r) : ∀ l, kM l yX12_holdersNow cX12_holdersNow 3 (some .int) rm_X12_holdersNow g [.ref (q 0)] (mw g q S) (mw g q S) (some (.int r)) 0 0 := by
  refine k_open_i (own := "MarkChainsModel") (by decide) rfl (Nat.le_of_ble_eq_true rfl) (fun X C hR => ?_)
  refine (?_ : jJ X g (r : Int32) (mw g q S) 0 0 0 [(0, .ref (q 0))] [] (f_X12_holdersNow S)) h
  unfold f_X12_holdersNow
  refine r_iconst (pc := 0) C dX12_holdersNow_0 (v := 0) (by decide) ?_
  refine r_istore_n (pc := 1) C dX12_holdersNow_1 (lv' := [(0, .ref (q 0)), (1, .int 0)]) (by decide) [1, 0] rfl ?_
  refine r_iconst (pc := 2) C dX12_holdersNow_2 (v := 0) (by decide) ?_
  refine r_istore_n (pc := 3) C dX12_holdersNow_3 (lv' := [(0, .ref (q 0)), (1, .int 0), (2, .int 0)]) (by decide) [1, 2, 0] rfl ?_
  refine l_X12_holdersNow_4 C hR _ (fun x16 => ?_) FU 0 0
  refine r_iload_n (pc := 50) C dX12_holdersNow_50 0 rfl ?_
  exact r_retPI hR (pc := 51) dX12_holdersNow_51
