abbrev rm_X12_doAct : Room := { frames := 7, cells := 0, slots := 0, locals := 155 }
theorem kY_X12_doAct : kY yX12_doAct cX12_doAct 2 (some .int) 1 := ⟨kw_1_13, kw_8_65, by decide, by decide, by decide +kernel⟩
def f_X12_doAct (S : MS) (a1 : Int32) : Option (Int32 × MS) :=
  chk a1 120 (
  (if (S.2 26 a1.toNatClampNeg) = 100 then
  chk (a1 + 1) 120 (
  bw (f_X12_days S (S.2 26 (a1 + 1).toNatClampNeg)) (fun x1 S2 =>
  some (x1, S2)))
 else
  (if (S.2 26 a1.toNatClampNeg) = 112 then
  chk (a1 + 1) 120 (
  chk (a1 + 2) 120 (
  bw (f_X12_paper S (S.2 26 (a1 + 1).toNatClampNeg) (S.2 26 (a1 + 2).toNatClampNeg)) (fun x3 S4 =>
  some (x3, S4))))
 else
  (if (S.2 26 a1.toNatClampNeg) = 114 then
  chk (a1 + 1) 120 (
  bw (f_X12_ratify S (S.2 26 (a1 + 1).toNatClampNeg)) (fun x5 S6 =>
  some (x5, S6)))
 else
  (if (S.2 26 a1.toNatClampNeg) = 115 then
  chk (a1 + 1) 120 (
  bw (f_X12_strike S (S.2 26 (a1 + 1).toNatClampNeg)) (fun x7 S8 =>
  some (x7, S8)))
 else
  chk (a1 + 1) 120 (
  chk (a1 + 2) 120 (
  chk (a1 + 3) 120 (
  bw (f_X12_ban S (S.2 26 (a1 + 1).toNatClampNeg) (S.2 26 (a1 + 2).toNatClampNeg) (S.2 26 (a1 + 3).toNatClampNeg)) (fun x9 S10 =>
  some (x9, S10))))))))))
set_option maxRecDepth 100000 in
set_option maxHeartbeats 4000000 in
theorem c_X12_doAct {g : KG} {q : Nat → Nat} {S : MS} {a1 : Int32} {r : Int32} {S' : MS} (h : f_X12_doAct S a1 = some (r, S')) : ∀ l, kM l yX12_doAct cX12_doAct 2 (some .int) rm_X12_doAct g [.ref (q 0), .int a1] (mw g q S) (mw g q S') (some (.int r)) 0 0 := by
  refine k_open_i (own := "MarkChainsModel") (by decide) rfl (Nat.le_of_ble_eq_true rfl) (fun X C hR => ?_)
  refine (?_ : jJ X g ((r, S') : Int32 × MS) (mw g q S) 0 0 0 [(0, .ref (q 0)), (1, .int a1)] [] (f_X12_doAct S a1)) h
  unfold f_X12_doAct
  refine r_aload_n (pc := 0) C dX12_doAct_0 0 rfl ?_
  refine mg_act (pc := 1) C dX12_doAct_1 ?_
  refine r_iload_n (pc := 4) C dX12_doAct_4 1 rfl ?_
  refine ml_act (pc := 5) C dX12_doAct_5 ?_
  refine r_case (fun h6_0 => ?_) (fun h6_0 => ?_)
  · refine r_lookIn (off := 68) 74 (pc := 6) C dX12_doAct_6 h6_0 (by decide) (by decide) (by decide) ?_
    refine r_aload_n (pc := 74) C dX12_doAct_74 0 rfl ?_
    refine r_aload_n (pc := 75) C dX12_doAct_75 0 rfl ?_
    refine mg_act (pc := 76) C dX12_doAct_76 ?_
    refine r_iload_n (pc := 79) C dX12_doAct_79 1 rfl ?_
    refine r_iconst (pc := 80) C dX12_doAct_80 (v := 1) (by decide) ?_
    refine r_iadd (pc := 81) C dX12_doAct_81 ?_
    refine ml_act (pc := 82) C dX12_doAct_82 ?_
    refine r_cVwi (As := [.int (S.2 26 (a1 + 1).toNatClampNeg)]) (st := []) (wf := mw g q) (pc := 83) C (fun _ _ h => c_X12_days h) kY_X12_days kw_7_82 kw_7_83 kw_8_68 rfl ⟨Nat.le_of_ble_eq_true rfl, Nat.le_of_ble_eq_true rfl⟩ rfl rfl ⟨Nat.zero_le _, Nat.zero_le _⟩ 0 rfl rfl rfl (Nat.le_of_ble_eq_true rfl) dX12_doAct_83 (fun x1 S2 => ?_)
    exact r_retWI (wf := mw g q) hR (pc := 86) dX12_doAct_86
  · refine r_case (fun h6_1 => ?_) (fun h6_1 => ?_)
    · refine r_lookIn (off := 81) 87 (pc := 6) C dX12_doAct_6 h6_1 (by decide) (by decide) (by decide) ?_
      refine r_aload_n (pc := 87) C dX12_doAct_87 0 rfl ?_
      refine r_aload_n (pc := 88) C dX12_doAct_88 0 rfl ?_
      refine mg_act (pc := 89) C dX12_doAct_89 ?_
      refine r_iload_n (pc := 92) C dX12_doAct_92 1 rfl ?_
      refine r_iconst (pc := 93) C dX12_doAct_93 (v := 1) (by decide) ?_
      refine r_iadd (pc := 94) C dX12_doAct_94 ?_
      refine ml_act (pc := 95) C dX12_doAct_95 ?_
      refine r_aload_n (pc := 96) C dX12_doAct_96 0 rfl ?_
      refine mg_act (pc := 97) C dX12_doAct_97 ?_
      refine r_iload_n (pc := 100) C dX12_doAct_100 1 rfl ?_
      refine r_iconst (pc := 101) C dX12_doAct_101 (v := 2) (by decide) ?_
      refine r_iadd (pc := 102) C dX12_doAct_102 ?_
      refine ml_act (pc := 103) C dX12_doAct_103 ?_
      refine r_cVwi (As := [.int (S.2 26 (a1 + 1).toNatClampNeg), .int (S.2 26 (a1 + 2).toNatClampNeg)]) (st := []) (wf := mw g q) (pc := 104) C (fun _ _ h => c_X12_paper h) kY_X12_paper kw_7_78 kw_7_79 kw_8_69 rfl ⟨Nat.le_of_ble_eq_true rfl, Nat.le_of_ble_eq_true rfl⟩ rfl rfl ⟨Nat.zero_le _, Nat.zero_le _⟩ 0 rfl rfl rfl (Nat.le_of_ble_eq_true rfl) dX12_doAct_104 (fun x3 S4 => ?_)
      exact r_retWI (wf := mw g q) hR (pc := 107) dX12_doAct_107
    · refine r_case (fun h6_2 => ?_) (fun h6_2 => ?_)
      · refine r_lookIn (off := 42) 48 (pc := 6) C dX12_doAct_6 h6_2 (by decide) (by decide) (by decide) ?_
        refine r_aload_n (pc := 48) C dX12_doAct_48 0 rfl ?_
        refine r_aload_n (pc := 49) C dX12_doAct_49 0 rfl ?_
        refine mg_act (pc := 50) C dX12_doAct_50 ?_
        refine r_iload_n (pc := 53) C dX12_doAct_53 1 rfl ?_
        refine r_iconst (pc := 54) C dX12_doAct_54 (v := 1) (by decide) ?_
        refine r_iadd (pc := 55) C dX12_doAct_55 ?_
        refine ml_act (pc := 56) C dX12_doAct_56 ?_
        refine r_cVwi (As := [.int (S.2 26 (a1 + 1).toNatClampNeg)]) (st := []) (wf := mw g q) (pc := 57) C (fun _ _ h => c_X12_ratify h) kY_X12_ratify kw_7_62 kw_7_63 kw_8_66 rfl ⟨Nat.le_of_ble_eq_true rfl, Nat.le_of_ble_eq_true rfl⟩ rfl rfl ⟨Nat.zero_le _, Nat.zero_le _⟩ 0 rfl rfl rfl (Nat.le_of_ble_eq_true rfl) dX12_doAct_57 (fun x5 S6 => ?_)
        exact r_retWI (wf := mw g q) hR (pc := 60) dX12_doAct_60
      · refine r_case (fun h6_3 => ?_) (fun h6_3 => ?_)
        · refine r_lookIn (off := 55) 61 (pc := 6) C dX12_doAct_6 h6_3 (by decide) (by decide) (by decide) ?_
          refine r_aload_n (pc := 61) C dX12_doAct_61 0 rfl ?_
          refine r_aload_n (pc := 62) C dX12_doAct_62 0 rfl ?_
          refine mg_act (pc := 63) C dX12_doAct_63 ?_
          refine r_iload_n (pc := 66) C dX12_doAct_66 1 rfl ?_
          refine r_iconst (pc := 67) C dX12_doAct_67 (v := 1) (by decide) ?_
          refine r_iadd (pc := 68) C dX12_doAct_68 ?_
          refine ml_act (pc := 69) C dX12_doAct_69 ?_
          refine r_cVwi (As := [.int (S.2 26 (a1 + 1).toNatClampNeg)]) (st := []) (wf := mw g q) (pc := 70) C (fun _ _ h => c_X12_strike h) kY_X12_strike kw_7_66 kw_7_67 kw_8_67 rfl ⟨Nat.le_of_ble_eq_true rfl, Nat.le_of_ble_eq_true rfl⟩ rfl rfl ⟨Nat.zero_le _, Nat.zero_le _⟩ 0 rfl rfl rfl (Nat.le_of_ble_eq_true rfl) dX12_doAct_70 (fun x7 S8 => ?_)
          exact r_retWI (wf := mw g q) hR (pc := 73) dX12_doAct_73
        · refine r_look (off := 102) 108 (pc := 6) C dX12_doAct_6 (by decide) (by rw [show (#[(100, 68), (112, 81), (114, 42), (115, 55)] : Array (Int × Int)).toList = [(100, 68), (112, 81), (114, 42), (115, 55)] from rfl, lv_osw h6_0 (by decide), lv_osw h6_1 (by decide), lv_osw h6_2 (by decide), lv_osw h6_3 (by decide)]; rfl) (by decide) ?_
          refine r_aload_n (pc := 108) C dX12_doAct_108 0 rfl ?_
          refine r_aload_n (pc := 109) C dX12_doAct_109 0 rfl ?_
          refine mg_act (pc := 110) C dX12_doAct_110 ?_
          refine r_iload_n (pc := 113) C dX12_doAct_113 1 rfl ?_
          refine r_iconst (pc := 114) C dX12_doAct_114 (v := 1) (by decide) ?_
          refine r_iadd (pc := 115) C dX12_doAct_115 ?_
          refine ml_act (pc := 116) C dX12_doAct_116 ?_
          refine r_aload_n (pc := 117) C dX12_doAct_117 0 rfl ?_
          refine mg_act (pc := 118) C dX12_doAct_118 ?_
          refine r_iload_n (pc := 121) C dX12_doAct_121 1 rfl ?_
          refine r_iconst (pc := 122) C dX12_doAct_122 (v := 2) (by decide) ?_
          refine r_iadd (pc := 123) C dX12_doAct_123 ?_
          refine ml_act (pc := 124) C dX12_doAct_124 ?_
          refine r_aload_n (pc := 125) C dX12_doAct_125 0 rfl ?_
          refine mg_act (pc := 126) C dX12_doAct_126 ?_
          refine r_iload_n (pc := 129) C dX12_doAct_129 1 rfl ?_
          refine r_iconst (pc := 130) C dX12_doAct_130 (v := 3) (by decide) ?_
          refine r_iadd (pc := 131) C dX12_doAct_131 ?_
          refine ml_act (pc := 132) C dX12_doAct_132 ?_
          refine r_cVwi (As := [.int (S.2 26 (a1 + 1).toNatClampNeg), .int (S.2 26 (a1 + 2).toNatClampNeg), .int (S.2 26 (a1 + 3).toNatClampNeg)]) (st := []) (wf := mw g q) (pc := 133) C (fun _ _ h => c_X12_ban h) kY_X12_ban kw_7_70 kw_7_71 kw_8_70 rfl ⟨Nat.le_of_ble_eq_true rfl, Nat.le_of_ble_eq_true rfl⟩ rfl rfl ⟨Nat.zero_le _, Nat.zero_le _⟩ 0 rfl rfl rfl (Nat.le_of_ble_eq_true rfl) dX12_doAct_133 (fun x9 S10 => ?_)
          exact r_retWI (wf := mw g q) hR (pc := 136) dX12_doAct_136
set_option maxRecDepth 100000 in
theorem w_X12_doAct {S : MS} {a1 : Int32} {r : Int32} {S' : MS} (h : f_X12_doAct S a1 = some (r, S')) : fI [3] [0, 1, 17] S S' := by
  have hS : fI [3] [0, 1, 17] S S := fI_rf
  refine (?_ : jf (fI [3] [0, 1, 17] S) Prod.snd (f_X12_doAct S a1)) _ h
  unfold f_X12_doAct
  refine f_chk ?_
  refine f_ite ?_ ?_
  · refine f_chk ?_
    refine f_bwS (fun _ _ h => fI_tr hS (w_X12_days h) (by decide) (by decide)) (fun x1 S2 hS2 => ?_)
    exact f_some hS2
  · refine f_ite ?_ ?_
    · refine f_chk ?_
      refine f_chk ?_
      refine f_bwS (fun _ _ h => fI_tr hS (w_X12_paper h) (by decide) (by decide)) (fun x3 S4 hS4 => ?_)
      exact f_some hS4
    · refine f_ite ?_ ?_
      · refine f_chk ?_
        refine f_bwS (fun _ _ h => fI_tr hS (w_X12_ratify h) (by decide) (by decide)) (fun x5 S6 hS6 => ?_)
        exact f_some hS6
      · refine f_ite ?_ ?_
        · refine f_chk ?_
          refine f_bwS (fun _ _ h => fI_tr hS (w_X12_strike h) (by decide) (by decide)) (fun x7 S8 hS8 => ?_)
          exact f_some hS8
        · refine f_chk ?_
          refine f_chk ?_
          refine f_chk ?_
          refine f_bwS (fun _ _ h => fI_tr hS (w_X12_ban h) (by decide) (by decide)) (fun x9 S10 hS10 => ?_)
          exact f_some hS10
abbrev rm_X12_acts : Room := { frames := 8, cells := 0, slots := 0, locals := 176 }
theorem kY_X12_acts : kY yX12_acts cX12_acts 3 (some .int) 0 := ⟨kw_1_13, kw_8_53, by decide, by decide, by decide +kernel⟩
def L_X12_acts_11 (k7 : MS → Int32 → Option (Int32 × MS)) : Nat → MS → Int32 → Option (Int32 × MS) := lo2 fun rec5 S4 x3 =>
  (if x3 = 0 then
  k7 S4 x3
 else
  (if (S4.1 5) ≤ (S4.1 6) then
  k7 S4 x3
 else
  bw (f_X12_readAct S4) (fun x9 S10 =>
  lt (b2 x9) fun x11 =>
  rec5 S10 x11)))
set_option maxRecDepth 100000 in
set_option maxHeartbeats 4000000 in
theorem l_X12_acts_11 {X : KX} {g : KG} {q : Nat → Nat} {res : Int32 × MS} (C : kC X g cX12_acts "MarkChainsModel" rm_X12_acts 3) (hR : ∀ (pc : Nat) (lv : List (Nat × Value)), decode cX12_acts pc = .ok (.ireturn, 1) → jW X g (mw g q res.2) 0 0 pc lv [.int res.1]) (k7 : MS → Int32 → Option (Int32 × MS)) (hk8 : ∀ (S12 : MS) (x13 : Int32), jJ X g res (mw g q S12) 0 0 34 [(0, .ref (q 0)), (1, .int x13)] [] (k7 S12 x13)) : ∀ (n : Nat) (S4 : MS) (x3 : Int32), jJ X g res (mw g q S4) 0 0 11 [(0, .ref (q 0)), (1, .int x3)] [] (L_X12_acts_11 k7 n S4 x3) := by
  refine r_lo2 (fun S4 x3 => mw g q S4) (fun S4 x3 => [(0, .ref (q 0)), (1, .int x3)]) (fun rec5 ih6 S4 x3 => ?_)
  refine r_iload_n (pc := 11) C dX12_acts_11 1 rfl ?_
  refine r_if_eq 34 (pc := 12) C dX12_acts_12 (by decide) ?_ ?_
  · exact hk8 S4 x3
  · refine r_aload_n (pc := 15) C dX12_acts_15 0 rfl ?_
    refine mg_at (pc := 16) C dX12_acts_16 ?_
    refine r_aload_n (pc := 19) C dX12_acts_19 0 rfl ?_
    refine mg_taped (pc := 20) C dX12_acts_20 ?_
    refine r_icmp_ge 34 (pc := 23) C dX12_acts_23 (by decide) ?_ ?_
    · exact hk8 S4 x3
    · refine r_aload_n (pc := 26) C dX12_acts_26 0 rfl ?_
      refine r_cVwz (As := []) (st := []) (wf := mw g q) (pc := 27) C (fun _ _ h => c_X12_readAct h) kY_X12_readAct kw_8_56 kw_0_92 kw_8_54 rfl ⟨Nat.le_of_ble_eq_true rfl, Nat.le_of_ble_eq_true rfl⟩ rfl rfl ⟨Nat.zero_le _, Nat.zero_le _⟩ 0 rfl rfl rfl (Nat.le_of_ble_eq_true rfl) dX12_acts_27 (fun x9 S10 => ?_)
      refine r_istoreV_n (pc := 30) C dX12_acts_30 (lv' := fun x11 => [(0, .ref (q 0)), (1, .int x11)]) (by decide) [1, 0] (fun _ => rfl) (fun x11 => ?_)
      refine r_goto 11 (pc := 31) C dX12_acts_31 (by decide) ?_
      exact ih6 S10 x11
set_option maxRecDepth 100000 in
theorem v_X12_acts_11 {S0 : MS} {k7 : MS → Int32 → Option (Int32 × MS)} (hk8 : ∀ (S12 : MS) (x13 : Int32), (fI [3, 5, 6, 7, 8, 28, 29, 30] [0, 1, 17, 26, 27] S0) S12 → jf (fI [3, 5, 6, 7, 8, 28, 29, 30] [0, 1, 17, 26, 27] S0) Prod.snd (k7 S12 x13)) : ∀ (n : Nat) (S4 : MS) (x3 : Int32), (fI [3, 5, 6, 7, 8, 28, 29, 30] [0, 1, 17, 26, 27] S0) S4 → jf (fI [3, 5, 6, 7, 8, 28, 29, 30] [0, 1, 17, 26, 27] S0) Prod.snd (L_X12_acts_11 k7 n S4 x3) := by
  refine f_lo2 (I := (fI [3, 5, 6, 7, 8, 28, 29, 30] [0, 1, 17, 26, 27] S0)) (fun S4 x3 => S4) (fun rec5 ih6 S4 x3 hS4 => ?_)
  refine f_ite ?_ ?_
  · exact hk8 S4 x3 hS4
  · refine f_ite ?_ ?_
    · exact hk8 S4 x3 hS4
    · refine f_bwS (fun _ _ h => fI_tr hS4 (w_X12_readAct h) (by decide) (by decide)) (fun x9 S10 hS10 => ?_)
      refine f_lt (fun x11 => ?_)
      exact ih6 S10 x11 hS10
def L_X12_acts_55 (k22 : MS → Option (Int32 × MS)) : Nat → MS → Option (Int32 × MS) := lo1 fun rec20 S19 =>
  (if (S19.1 28) ≤ (S19.1 29) then
  k22 S19
 else
  (if (S19.1 30) = (-1) then
  bw (f_X12_doAct S19 (4 * (S19.1 29))) (fun x24 S25 =>
  (if 0 ≤ x24 then
  chk (S25.1 29) 30 (lt (sa S25 27 (upd (S25.2 27) (S25.1 29).toNatClampNeg x24)) fun S26 =>
  lt (si S26 29 ((S26.1 29) + 1)) fun S27 =>
  rec20 S27)
 else
  lt (si S25 30 (S25.1 29)) fun S28 =>
  rec20 S28))
 else
  k22 S19))
set_option maxRecDepth 100000 in
set_option maxHeartbeats 4000000 in
theorem l_X12_acts_55 {X : KX} {g : KG} {q : Nat → Nat} {res : Int32 × MS} (C : kC X g cX12_acts "MarkChainsModel" rm_X12_acts 3) (hR : ∀ (pc : Nat) (lv : List (Nat × Value)), decode cX12_acts pc = .ok (.ireturn, 1) → jW X g (mw g q res.2) 0 0 pc lv [.int res.1]) (k22 : MS → Option (Int32 × MS)) (hk23 : ∀ (S29 : MS), jJ X g res (mw g q S29) 0 0 123 [(0, .ref (q 0))] [] (k22 S29)) : ∀ (n : Nat) (S19 : MS), jJ X g res (mw g q S19) 0 0 55 [(0, .ref (q 0))] [] (L_X12_acts_55 k22 n S19) := by
  refine r_lo1 (fun S19 => mw g q S19) (fun S19 => [(0, .ref (q 0))]) (fun rec20 ih21 S19 => ?_)
  refine r_aload_n (pc := 55) C dX12_acts_55 0 rfl ?_
  refine mg_actsDone (pc := 56) C dX12_acts_56 ?_
  refine r_aload_n (pc := 59) C dX12_acts_59 0 rfl ?_
  refine mg_actMany (pc := 60) C dX12_acts_60 ?_
  refine r_icmp_ge 123 (pc := 63) C dX12_acts_63 (by decide) ?_ ?_
  · exact hk23 S19
  · refine r_aload_n (pc := 66) C dX12_acts_66 0 rfl ?_
    refine mg_endedAt (pc := 67) C dX12_acts_67 ?_
    refine r_iconst (pc := 70) C dX12_acts_70 (v := (-1)) (by decide) ?_
    refine r_icmp_ne 123 (pc := 71) C dX12_acts_71 (by decide) ?_ ?_
    · exact hk23 S19
    · refine r_aload_n (pc := 74) C dX12_acts_74 0 rfl ?_
      refine r_iconst (pc := 75) C dX12_acts_75 (v := 4) (by decide) ?_
      refine r_aload_n (pc := 76) C dX12_acts_76 0 rfl ?_
      refine mg_actsDone (pc := 77) C dX12_acts_77 ?_
      refine r_imul (pc := 80) C dX12_acts_80 ?_
      refine r_cVwi (As := [.int (4 * (S19.1 29))]) (st := []) (wf := mw g q) (pc := 81) C (fun _ _ h => c_X12_doAct h) kY_X12_doAct kw_8_64 kw_0_94 kw_8_62 rfl ⟨Nat.le_of_ble_eq_true rfl, Nat.le_of_ble_eq_true rfl⟩ rfl rfl ⟨Nat.zero_le _, Nat.zero_le _⟩ 0 rfl rfl rfl (Nat.le_of_ble_eq_true rfl) dX12_acts_81 (fun x24 S25 => ?_)
      refine r_istore_n (pc := 84) C dX12_acts_84 (lv' := [(0, .ref (q 0)), (2, .int x24)]) (by decide) [1, 0] rfl ?_
      refine r_iload_n (pc := 85) C dX12_acts_85 1 rfl ?_
      refine r_if_ge 100 (pc := 86) C dX12_acts_86 (by decide) ?_ ?_
      · refine r_aload_n (pc := 100) C dX12_acts_100 0 rfl ?_
        refine mg_toldBy (pc := 101) C dX12_acts_101 ?_
        refine r_aload_n (pc := 104) C dX12_acts_104 0 rfl ?_
        refine mg_actsDone (pc := 105) C dX12_acts_105 ?_
        refine r_iload_n (pc := 108) C dX12_acts_108 1 rfl ?_
        refine ms_toldBy (pc := 109) C dX12_acts_109 (fun S26 => ?_)
        refine r_aload_n (pc := 110) C dX12_acts_110 0 rfl ?_
        refine r_dup (pc := 111) C dX12_acts_111 rfl ?_
        refine mg_actsDone (pc := 112) C dX12_acts_112 ?_
        refine r_iconst (pc := 115) C dX12_acts_115 (v := 1) (by decide) ?_
        refine r_iadd (pc := 116) C dX12_acts_116 ?_
        refine mp_actsDone (pc := 117) C dX12_acts_117 (fun S27 => ?_)
        refine r_goto 55 (pc := 120) C dX12_acts_120 (by decide) ?_
        refine r_sub (lv' := [(0, .ref (q 0))]) [0] rfl ?_
        exact ih21 S27
      · refine r_aload_n (pc := 89) C dX12_acts_89 0 rfl ?_
        refine r_aload_n (pc := 90) C dX12_acts_90 0 rfl ?_
        refine mg_actsDone (pc := 91) C dX12_acts_91 ?_
        refine mp_endedAt (pc := 94) C dX12_acts_94 (fun S28 => ?_)
        refine r_goto 120 (pc := 97) C dX12_acts_97 (by decide) ?_
        refine r_goto 55 (pc := 120) C dX12_acts_120 (by decide) ?_
        refine r_sub (lv' := [(0, .ref (q 0))]) [0] rfl ?_
        exact ih21 S28
set_option maxRecDepth 100000 in
theorem v_X12_acts_55 {S0 : MS} {k22 : MS → Option (Int32 × MS)} (hk23 : ∀ (S29 : MS), (fI [3, 5, 6, 7, 8, 28, 29, 30] [0, 1, 17, 26, 27] S0) S29 → jf (fI [3, 5, 6, 7, 8, 28, 29, 30] [0, 1, 17, 26, 27] S0) Prod.snd (k22 S29)) : ∀ (n : Nat) (S19 : MS), (fI [3, 5, 6, 7, 8, 28, 29, 30] [0, 1, 17, 26, 27] S0) S19 → jf (fI [3, 5, 6, 7, 8, 28, 29, 30] [0, 1, 17, 26, 27] S0) Prod.snd (L_X12_acts_55 k22 n S19) := by
  refine f_lo1 (I := (fI [3, 5, 6, 7, 8, 28, 29, 30] [0, 1, 17, 26, 27] S0)) (fun S19 => S19) (fun rec20 ih21 S19 hS19 => ?_)
  refine f_ite ?_ ?_
  · exact hk23 S19 hS19
  · refine f_ite ?_ ?_
    · refine f_bwS (fun _ _ h => fI_tr hS19 (w_X12_doAct h) (by decide) (by decide)) (fun x24 S25 hS25 => ?_)
      refine f_ite ?_ ?_
      · refine f_chk (f_ltS (fI_sa hS25 (by decide)) (fun S26 hS26 => ?_))
        refine f_ltS (fI_si hS26 (by decide)) (fun S27 hS27 => ?_)
        exact ih21 S27 hS27
      · refine f_ltS (fI_si hS25 (by decide)) (fun S28 hS28 => ?_)
        exact ih21 S28 hS28
    · exact hk23 S19 hS19
def f_X12_acts (S : MS) : Option (Int32 × MS) :=
  bp (f_X12_beginText S) (fun S1 =>
  lt (si S1 28 0) fun S2 =>
  L_X12_acts_11 (fun S14 x15 =>
  lt (si S14 5 0) fun S16 =>
  (if x15 = 0 then
  some ((-1), S16)
 else
  lt (si S16 29 0) fun S17 =>
  lt (si S17 30 (-1)) fun S18 =>
  L_X12_acts_55 (fun S30 =>
  some (S30.1 29, S30)) FU S18)) FU S2 1)
set_option maxRecDepth 100000 in
set_option maxHeartbeats 4000000 in
theorem c_X12_acts {g : KG} {q : Nat → Nat} {S : MS}  {r : Int32} {S' : MS} (h : f_X12_acts S = some (r, S')) : ∀ l, kM l yX12_acts cX12_acts 3 (some .int) rm_X12_acts g [.ref (q 0)] (mw g q S) (mw g q S') (some (.int r)) 0 0 := by
  refine k_open_i (own := "MarkChainsModel") (by decide) rfl (Nat.le_of_ble_eq_true rfl) (fun X C hR => ?_)
  refine (?_ : jJ X g ((r, S') : Int32 × MS) (mw g q S) 0 0 0 [(0, .ref (q 0))] [] (f_X12_acts S)) h
  unfold f_X12_acts
  refine r_aload_n (pc := 0) C dX12_acts_0 0 rfl ?_
  refine r_cVwv (As := []) (st := []) (wf := mw g q) (pc := 1) C (fun _ h => c_X12_beginText h) kY_X12_beginText kw_6_140 kw_0_39 kw_6_138 rfl ⟨Nat.le_of_ble_eq_true rfl, Nat.le_of_ble_eq_true rfl⟩ rfl rfl ⟨Nat.zero_le _, Nat.zero_le _⟩ 0 rfl rfl rfl (Nat.le_of_ble_eq_true rfl) dX12_acts_1 (fun S1 => ?_)
  refine r_aload_n (pc := 4) C dX12_acts_4 0 rfl ?_
  refine r_iconst (pc := 5) C dX12_acts_5 (v := 0) (by decide) ?_
  refine mp_actMany (pc := 6) C dX12_acts_6 (fun S2 => ?_)
  refine r_iconst (pc := 9) C dX12_acts_9 (v := 1) (by decide) ?_
  refine r_istore_n (pc := 10) C dX12_acts_10 (lv' := [(0, .ref (q 0)), (1, .int 1)]) (by decide) [1, 0] rfl ?_
  refine l_X12_acts_11 C hR _ (fun S14 x15 => ?_) FU S2 1
  refine r_aload_n (pc := 34) C dX12_acts_34 0 rfl ?_
  refine r_iconst (pc := 35) C dX12_acts_35 (v := 0) (by decide) ?_
  refine mp_taped (pc := 36) C dX12_acts_36 (fun S16 => ?_)
  refine r_iload_n (pc := 39) C dX12_acts_39 1 rfl ?_
  refine r_if_ne 45 (pc := 40) C dX12_acts_40 (by decide) ?_ ?_
  · refine r_aload_n (pc := 45) C dX12_acts_45 0 rfl ?_
    refine r_iconst (pc := 46) C dX12_acts_46 (v := 0) (by decide) ?_
    refine mp_actsDone (pc := 47) C dX12_acts_47 (fun S17 => ?_)
    refine r_aload_n (pc := 50) C dX12_acts_50 0 rfl ?_
    refine r_iconst (pc := 51) C dX12_acts_51 (v := (-1)) (by decide) ?_
    refine mp_endedAt (pc := 52) C dX12_acts_52 (fun S18 => ?_)
    refine r_sub (lv' := [(0, .ref (q 0))]) [0] rfl ?_
    refine l_X12_acts_55 C hR _ (fun S30 => ?_) FU S18
    refine r_aload_n (pc := 123) C dX12_acts_123 0 rfl ?_
    refine mg_actsDone (pc := 124) C dX12_acts_124 ?_
    exact r_retWI (wf := mw g q) hR (pc := 127) dX12_acts_127
  · refine r_iconst (pc := 43) C dX12_acts_43 (v := (-1)) (by decide) ?_
    exact r_retWI (wf := mw g q) hR (pc := 44) dX12_acts_44
set_option maxRecDepth 100000 in
theorem w_X12_acts {S : MS}  {r : Int32} {S' : MS} (h : f_X12_acts S = some (r, S')) : fI [3, 5, 6, 7, 8, 28, 29, 30] [0, 1, 17, 26, 27] S S' := by
  have hS : fI [3, 5, 6, 7, 8, 28, 29, 30] [0, 1, 17, 26, 27] S S := fI_rf
  refine (?_ : jf (fI [3, 5, 6, 7, 8, 28, 29, 30] [0, 1, 17, 26, 27] S) Prod.snd (f_X12_acts S)) _ h
  unfold f_X12_acts
  refine f_bpS (fun _ h => fI_tr hS (w_X12_beginText h) (by decide) (by decide)) (fun S1 hS1 => ?_)
  refine f_ltS (fI_si hS1 (by decide)) (fun S2 hS2 => ?_)
  refine v_X12_acts_11 (fun S14 x15 hS14 => ?_) FU S2 1 hS2
  refine f_ltS (fI_si hS14 (by decide)) (fun S16 hS16 => ?_)
  refine f_ite ?_ ?_
  · exact f_some hS16
  · refine f_ltS (fI_si hS16 (by decide)) (fun S17 hS17 => ?_)
    refine f_ltS (fI_si hS17 (by decide)) (fun S18 hS18 => ?_)
    refine v_X12_acts_55 (fun S30 hS30 => ?_) FU S18 hS18
    exact f_some hS30
abbrev rm_X12_ended : Room := { frames := 0, cells := 0, slots := 0, locals := 0 }
theorem kY_X12_ended : kY yX12_ended cX12_ended 1 (some .int) 0 := ⟨kw_1_13, kw_8_74, by decide, by decide, by decide +kernel⟩
def f_X12_ended (S : MS) : Option (Int32) :=
  some (S.1 30)
set_option maxRecDepth 100000 in
set_option maxHeartbeats 4000000 in
theorem c_X12_ended {g : KG} {q : Nat → Nat} {S : MS}  {r : Int32} (h : f_X12_ended S = some r) : ∀ l, kM l yX12_ended cX12_ended 1 (some .int) rm_X12_ended g [.ref (q 0)] (mw g q S) (mw g q S) (some (.int r)) 0 0 := by
  refine k_open_i (own := "MarkChainsModel") (by decide) rfl (Nat.le_of_ble_eq_true rfl) (fun X C hR => ?_)
  refine (?_ : jJ X g (r : Int32) (mw g q S) 0 0 0 [(0, .ref (q 0))] [] (f_X12_ended S)) h
  unfold f_X12_ended
  refine r_aload_n (pc := 0) C dX12_ended_0 0 rfl ?_
  refine mg_endedAt (pc := 1) C dX12_ended_1 ?_
  exact r_retPI hR (pc := 4) dX12_ended_4
abbrev rm_X12_row : Room := { frames := 1, cells := 0, slots := 0, locals := 22 }
theorem kY_X12_row : kY yX12_row cX12_row 2 (some .int) 1 := ⟨kw_1_13, kw_8_78, by decide, by decide, by decide +kernel⟩
def f_X12_row (S : MS) (a1 : Int32) : Option (Int32) :=
  bp (f_X12_isIn a1 0 ((S.1 29) - 1)) (fun x1 =>
  (if x1 = true then
  chk a1 30 (
  some (S.2 27 a1.toNatClampNeg))
 else
  some (-1)))
set_option maxRecDepth 100000 in
set_option maxHeartbeats 4000000 in
theorem c_X12_row {g : KG} {q : Nat → Nat} {S : MS} {a1 : Int32} {r : Int32} (h : f_X12_row S a1 = some r) : ∀ l, kM l yX12_row cX12_row 2 (some .int) rm_X12_row g [.ref (q 0), .int a1] (mw g q S) (mw g q S) (some (.int r)) 0 0 := by
  refine k_open_i (own := "MarkChainsModel") (by decide) rfl (Nat.le_of_ble_eq_true rfl) (fun X C hR => ?_)
  refine (?_ : jJ X g (r : Int32) (mw g q S) 0 0 0 [(0, .ref (q 0)), (1, .int a1)] [] (f_X12_row S a1)) h
  unfold f_X12_row
  refine r_iload_n (pc := 0) C dX12_row_0 1 rfl ?_
  refine r_iconst (pc := 1) C dX12_row_1 (v := 0) (by decide) ?_
  refine r_aload_n (pc := 2) C dX12_row_2 0 rfl ?_
  refine mg_actsDone (pc := 3) C dX12_row_3 ?_
  refine r_iconst (pc := 6) C dX12_row_6 (v := 1) (by decide) ?_
  refine r_isub (pc := 7) C dX12_row_7 ?_
  refine r_cSpz (As := [.int a1, .int 0, .int ((S.1 29) - 1)]) (st := []) (pc := 8) C (fun _ h => c_X12_isIn h) kY_X12_isIn kw_6_124 kw_6_123 rfl ⟨Nat.le_of_ble_eq_true rfl, Nat.le_of_ble_eq_true rfl⟩ rfl rfl ⟨Nat.zero_le _, Nat.zero_le _⟩ rfl (Nat.le_of_ble_eq_true rfl) dX12_row_8 (fun x1 => ?_)
  refine r_ifb_eq 23 (pc := 11) C dX12_row_11 (by decide) ?_ ?_
  · refine r_iconst (pc := 23) C dX12_row_23 (v := (-1)) (by decide) ?_
    exact r_retPI hR (pc := 24) dX12_row_24
  · refine r_aload_n (pc := 14) C dX12_row_14 0 rfl ?_
    refine mg_toldBy (pc := 15) C dX12_row_15 ?_
    refine r_iload_n (pc := 18) C dX12_row_18 1 rfl ?_
    refine ml_toldBy (pc := 19) C dX12_row_19 ?_
    refine r_goto 24 (pc := 20) C dX12_row_20 (by decide) ?_
    exact r_retPI hR (pc := 24) dX12_row_24
abbrev rm_X12_writes : Room := { frames := 0, cells := 0, slots := 0, locals := 0 }
theorem kY_X12_writes : kY yX12_writes cX12_writes 2 none 1 := ⟨kw_1_13, kw_8_86, by decide, by decide, by decide +kernel⟩
def f_X12_writes (S : MS) (a1 : Int32) : Option (MS) :=
  (if (S.1 32) = 400 then
  some S
 else
  chk (S.1 32) 400 (lt (sa S 31 (upd (S.2 31) (S.1 32).toNatClampNeg (vp_nar .byte a1.toInt8.toInt32))) fun S1 =>
  lt (si S1 32 ((S1.1 32) + 1)) fun S2 =>
  some S2))
set_option maxRecDepth 100000 in
set_option maxHeartbeats 4000000 in
theorem c_X12_writes {g : KG} {q : Nat → Nat} {S : MS} {a1 : Int32} {S' : MS} (h : f_X12_writes S a1 = some S') : ∀ l, kM l yX12_writes cX12_writes 2 none rm_X12_writes g [.ref (q 0), .int a1] (mw g q S) (mw g q S') (none) 0 0 := by
  refine k_open_v (own := "MarkChainsModel") (by decide) rfl (Nat.le_of_ble_eq_true rfl) (fun X C hR => ?_)
  refine (?_ : jJ X g (S' : MS) (mw g q S) 0 0 0 [(0, .ref (q 0)), (1, .int a1)] [] (f_X12_writes S a1)) h
  unfold f_X12_writes
  refine r_aload_n (pc := 0) C dX12_writes_0 0 rfl ?_
  refine mg_writtenLong (pc := 1) C dX12_writes_1 ?_
  refine r_sipush (pc := 4) C dX12_writes_4 (v := 400) (by decide) ?_
  refine r_icmp_ne 11 (pc := 7) C dX12_writes_7 (by decide) ?_ ?_
  · refine r_aload_n (pc := 11) C dX12_writes_11 0 rfl ?_
    refine mg_written (pc := 12) C dX12_writes_12 ?_
    refine r_aload_n (pc := 15) C dX12_writes_15 0 rfl ?_
    refine mg_writtenLong (pc := 16) C dX12_writes_16 ?_
    refine r_iload_n (pc := 19) C dX12_writes_19 1 rfl ?_
    refine r_i2b (pc := 20) C dX12_writes_20 ?_
    refine ms_written (pc := 21) C dX12_writes_21 (fun S1 => ?_)
    refine r_aload_n (pc := 22) C dX12_writes_22 0 rfl ?_
    refine r_dup (pc := 23) C dX12_writes_23 rfl ?_
    refine mg_writtenLong (pc := 24) C dX12_writes_24 ?_
    refine r_iconst (pc := 27) C dX12_writes_27 (v := 1) (by decide) ?_
    refine r_iadd (pc := 28) C dX12_writes_28 ?_
    refine mp_writtenLong (pc := 29) C dX12_writes_29 (fun S2 => ?_)
    exact r_retWV (wf := mw g q) hR (pc := 32) dX12_writes_32
  · exact r_retWV (wf := mw g q) hR (pc := 10) dX12_writes_10
set_option maxRecDepth 100000 in
theorem w_X12_writes {S : MS} {a1 : Int32} {S' : MS} (h : f_X12_writes S a1 = some S') : fI [32] [31] S S' := by
  have hS : fI [32] [31] S S := fI_rf
  refine (?_ : jf (fI [32] [31] S) id (f_X12_writes S a1)) _ h
  unfold f_X12_writes
  refine f_ite ?_ ?_
  · exact f_some hS
  · refine f_chk (f_ltS (fI_sa hS (by decide)) (fun S1 hS1 => ?_))
    refine f_ltS (fI_si hS1 (by decide)) (fun S2 hS2 => ?_)
    exact f_some hS2
abbrev rm_X12_writeNumber : Room := { frames := 1, cells := 0, slots := 0, locals := 21 }
theorem kY_X12_writeNumber : kY yX12_writeNumber cX12_writeNumber 3 none 1 := ⟨kw_1_13, kw_8_90, by decide, by decide, by decide +kernel⟩
def L_X12_writeNumber_2 (S : MS) (c1 : Int32) (k4 : Int32 → Option (MS)) : Nat → Int32 → Option (MS) := lo1 fun rec2 x1 =>
  nz x1 (
  (if (c1 / x1) ≤ 9 then
  k4 x1
 else
  lt (x1 * 10) fun x6 =>
  rec2 x6))
set_option maxRecDepth 100000 in
set_option maxHeartbeats 4000000 in
theorem l_X12_writeNumber_2 {X : KX} {g : KG} {q : Nat → Nat} {res : MS} {S : MS} (C : kC X g cX12_writeNumber "MarkChainsModel" rm_X12_writeNumber 3) (hR : ∀ (pc : Nat) (lv : List (Nat × Value)), decode cX12_writeNumber pc = .ok (.return_, 1) → jW X g (mw g q res) 0 0 pc lv []) (c1 : Int32) (k4 : Int32 → Option (MS)) (hk5 : ∀ (x7 : Int32), jJ X g res (mw g q S) 0 0 18 [(0, .ref (q 0)), (1, .int c1), (2, .int x7)] [] (k4 x7)) : ∀ (n : Nat) (x1 : Int32), jJ X g res (mw g q S) 0 0 2 [(0, .ref (q 0)), (1, .int c1), (2, .int x1)] [] (L_X12_writeNumber_2 S c1 k4 n x1) := by
  refine r_lo1 (fun x1 => mw g q S) (fun x1 => [(0, .ref (q 0)), (1, .int c1), (2, .int x1)]) (fun rec2 ih3 x1 => ?_)
  refine r_iload_n (pc := 2) C dX12_writeNumber_2 1 rfl ?_
  refine r_iload_n (pc := 3) C dX12_writeNumber_3 2 rfl ?_
  refine r_idivN (pc := 4) C dX12_writeNumber_4 ?_
  refine r_bipush (pc := 5) C dX12_writeNumber_5 (v := 9) (by decide) ?_
  refine r_icmp_le 18 (pc := 7) C dX12_writeNumber_7 (by decide) ?_ ?_
  · exact hk5 x1
  · refine r_iload_n (pc := 10) C dX12_writeNumber_10 2 rfl ?_
    refine r_bipush (pc := 11) C dX12_writeNumber_11 (v := 10) (by decide) ?_
    refine r_imul (pc := 13) C dX12_writeNumber_13 ?_
    refine r_istoreV_n (pc := 14) C dX12_writeNumber_14 (lv' := fun x6 => [(0, .ref (q 0)), (1, .int c1), (2, .int x6)]) (by decide) [1, 2, 0] (fun _ => rfl) (fun x6 => ?_)
    refine r_goto 2 (pc := 15) C dX12_writeNumber_15 (by decide) ?_
    exact ih3 x6
set_option maxRecDepth 100000 in
theorem v_X12_writeNumber_2 {S0 : MS} {S : MS} {c1 : Int32} (hS : (fI [32] [31] S0) S) {k4 : Int32 → Option (MS)} (hk5 : ∀ (x7 : Int32), (fI [32] [31] S0) S → jf (fI [32] [31] S0) id (k4 x7)) : ∀ (n : Nat) (x1 : Int32), (fI [32] [31] S0) S → jf (fI [32] [31] S0) id (L_X12_writeNumber_2 S c1 k4 n x1) := by
  refine f_lo1 (I := (fI [32] [31] S0)) (fun x1 => S) (fun rec2 ih3 x1 hS => ?_)
  refine f_nz ?_
  refine f_ite ?_ ?_
  · exact hk5 x1 hS
  · refine f_lt (fun x6 => ?_)
    exact ih3 x6 hS
def L_X12_writeNumber_18 (c1 : Int32) (k13 : MS → Option (MS)) : Nat → MS → Int32 → Option (MS) := lo2 fun rec11 S10 x9 =>
  (if x9 ≤ 0 then
  k13 S10
 else
  nz x9 (
  bp (f_X12_writes S10 (48 + ((c1 / x9) - (c1 / x9) / 10 * 10))) (fun S15 =>
  lt (x9 / 10) fun x16 =>
  rec11 S15 x16)))
set_option maxRecDepth 100000 in
set_option maxHeartbeats 4000000 in
theorem l_X12_writeNumber_18 {X : KX} {g : KG} {q : Nat → Nat} {res : MS} (C : kC X g cX12_writeNumber "MarkChainsModel" rm_X12_writeNumber 3) (hR : ∀ (pc : Nat) (lv : List (Nat × Value)), decode cX12_writeNumber pc = .ok (.return_, 1) → jW X g (mw g q res) 0 0 pc lv []) (c1 : Int32) (k13 : MS → Option (MS)) (hk14 : ∀ (S17 : MS), jJ X g res (mw g q S17) 0 0 43 [] [] (k13 S17)) : ∀ (n : Nat) (S10 : MS) (x9 : Int32), jJ X g res (mw g q S10) 0 0 18 [(0, .ref (q 0)), (1, .int c1), (2, .int x9)] [] (L_X12_writeNumber_18 c1 k13 n S10 x9) := by
  refine r_lo2 (fun S10 x9 => mw g q S10) (fun S10 x9 => [(0, .ref (q 0)), (1, .int c1), (2, .int x9)]) (fun rec11 ih12 S10 x9 => ?_)
  refine r_iload_n (pc := 18) C dX12_writeNumber_18 2 rfl ?_
  refine r_if_le 43 (pc := 19) C dX12_writeNumber_19 (by decide) ?_ ?_
  · refine r_sub (lv' := []) [] rfl ?_
    exact hk14 S10
  · refine r_aload_n (pc := 22) C dX12_writeNumber_22 0 rfl ?_
    refine r_bipush (pc := 23) C dX12_writeNumber_23 (v := 48) (by decide) ?_
    refine r_iload_n (pc := 25) C dX12_writeNumber_25 1 rfl ?_
    refine r_iload_n (pc := 26) C dX12_writeNumber_26 2 rfl ?_
    refine r_idivN (pc := 27) C dX12_writeNumber_27 ?_
    refine r_bipush (pc := 28) C dX12_writeNumber_28 (v := 10) (by decide) ?_
    refine r_irem (pc := 30) C dX12_writeNumber_30 (by decide) ?_
    refine r_iadd (pc := 31) C dX12_writeNumber_31 ?_
    refine r_cVwv (As := [.int (48 + ((c1 / x9) - (c1 / x9) / 10 * 10))]) (st := []) (wf := mw g q) (pc := 32) C (fun _ h => c_X12_writes h) kY_X12_writes kw_8_85 kw_0_95 kw_8_83 rfl ⟨Nat.le_of_ble_eq_true rfl, Nat.le_of_ble_eq_true rfl⟩ rfl rfl ⟨Nat.zero_le _, Nat.zero_le _⟩ 0 rfl rfl rfl (Nat.le_of_ble_eq_true rfl) dX12_writeNumber_32 (fun S15 => ?_)
    refine r_iload_n (pc := 35) C dX12_writeNumber_35 2 rfl ?_
    refine r_bipush (pc := 36) C dX12_writeNumber_36 (v := 10) (by decide) ?_
    refine r_idiv (pc := 38) C dX12_writeNumber_38 (by decide) ?_
    refine r_istoreV_n (pc := 39) C dX12_writeNumber_39 (lv' := fun x16 => [(0, .ref (q 0)), (1, .int c1), (2, .int x16)]) (by decide) [1, 2, 0] (fun _ => rfl) (fun x16 => ?_)
    refine r_goto 18 (pc := 40) C dX12_writeNumber_40 (by decide) ?_
    exact ih12 S15 x16
set_option maxRecDepth 100000 in
theorem v_X12_writeNumber_18 {S0 : MS} {c1 : Int32} {k13 : MS → Option (MS)} (hk14 : ∀ (S17 : MS), (fI [32] [31] S0) S17 → jf (fI [32] [31] S0) id (k13 S17)) : ∀ (n : Nat) (S10 : MS) (x9 : Int32), (fI [32] [31] S0) S10 → jf (fI [32] [31] S0) id (L_X12_writeNumber_18 c1 k13 n S10 x9) := by
  refine f_lo2 (I := (fI [32] [31] S0)) (fun S10 x9 => S10) (fun rec11 ih12 S10 x9 hS10 => ?_)
  refine f_ite ?_ ?_
  · exact hk14 S10 hS10
  · refine f_nz ?_
    refine f_bpS (fun _ h => fI_tr hS10 (w_X12_writes h) (by decide) (by decide)) (fun S15 hS15 => ?_)
    refine f_lt (fun x16 => ?_)
    exact ih12 S15 x16 hS15
def f_X12_writeNumber (S : MS) (a1 : Int32) : Option (MS) :=
  L_X12_writeNumber_2 S a1 (fun x8 =>
  L_X12_writeNumber_18 a1 (fun S18 =>
  some S18) FU S x8) FU 1
set_option maxRecDepth 100000 in
set_option maxHeartbeats 4000000 in
theorem c_X12_writeNumber {g : KG} {q : Nat → Nat} {S : MS} {a1 : Int32} {S' : MS} (h : f_X12_writeNumber S a1 = some S') : ∀ l, kM l yX12_writeNumber cX12_writeNumber 3 none rm_X12_writeNumber g [.ref (q 0), .int a1] (mw g q S) (mw g q S') (none) 0 0 := by
  refine k_open_v (own := "MarkChainsModel") (by decide) rfl (Nat.le_of_ble_eq_true rfl) (fun X C hR => ?_)
  refine (?_ : jJ X g (S' : MS) (mw g q S) 0 0 0 [(0, .ref (q 0)), (1, .int a1)] [] (f_X12_writeNumber S a1)) h
  unfold f_X12_writeNumber
  refine r_iconst (pc := 0) C dX12_writeNumber_0 (v := 1) (by decide) ?_
  refine r_istore_n (pc := 1) C dX12_writeNumber_1 (lv' := [(0, .ref (q 0)), (1, .int a1), (2, .int 1)]) (by decide) [1, 2, 0] rfl ?_
  refine l_X12_writeNumber_2 C hR a1 _ (fun x8 => ?_) FU 1
  refine l_X12_writeNumber_18 C hR a1 _ (fun S18 => ?_) FU S x8
  exact r_retWV (wf := mw g q) hR (pc := 43) dX12_writeNumber_43
set_option maxRecDepth 100000 in
theorem w_X12_writeNumber {S : MS} {a1 : Int32} {S' : MS} (h : f_X12_writeNumber S a1 = some S') : fI [32] [31] S S' := by
  have hS : fI [32] [31] S S := fI_rf
  refine (?_ : jf (fI [32] [31] S) id (f_X12_writeNumber S a1)) _ h
  unfold f_X12_writeNumber
  refine v_X12_writeNumber_2 hS (fun x8 hS => ?_) FU 1 hS
  refine v_X12_writeNumber_18 (fun S18 hS18 => ?_) FU S x8 hS
  exact f_some hS18
abbrev rm_X12_write : Room := { frames := 6, cells := 0, slots := 0, locals := 136 }
theorem kY_X12_write : kY yX12_write cX12_write 5 (some .int) 3 := ⟨kw_1_13, kw_8_82, by decide, by decide, by decide +kernel⟩
def L_X12_write_28 (k8 : MS → Option (Int32 × MS)) : Nat → MS → Int32 → Option (Int32 × MS) := lo2 fun rec6 S5 x4 =>
  (if (S5.1 20) ≤ x4 then
  k8 S5
 else
  jn1 (fun (S10 : MS) =>
  jn1 (fun (S11 : MS) =>
  bp (f_X12_value S11 x4) (fun x12 =>
  bp (f_X12_writeNumber S11 x12) (fun S13 =>
  bp (f_X12_writes S13 47) (fun S14 =>
  chk x4 60 (
  bp (f_X12_of S14 (S14.2 19 x4.toNatClampNeg) 1) (fun x15 =>
  bp (f_X12_writeNumber S14 x15) (fun S16 =>
  lt (x4 + 1) fun x17 =>
  rec6 S16 x17))))))) (fun k18 =>
  (if x4 ≤ 0 then
  k18 S10
 else
  bp (f_X12_value S10 x4) (fun x20 =>
  bp (f_X12_value S10 (x4 - 1)) (fun x21 =>
  (if x20 = x21 then
  bp (f_X12_writes S10 61) (fun S22 =>
  k18 S22)
 else
  k18 S10)))))) (fun k23 =>
  (if x4 ≤ 0 then
  k23 S5
 else
  bp (f_X12_writes S5 32) (fun S25 =>
  k23 S25))))
set_option maxRecDepth 100000 in
set_option maxHeartbeats 4000000 in
theorem l_X12_write_28 {X : KX} {g : KG} {q : Nat → Nat} {res : Int32 × MS} (C : kC X g cX12_write "MarkChainsModel" rm_X12_write 5) (hR : ∀ (pc : Nat) (lv : List (Nat × Value)), decode cX12_write pc = .ok (.ireturn, 1) → jW X g (mw g q res.2) 0 0 pc lv [.int res.1]) (k8 : MS → Option (Int32 × MS)) (hk9 : ∀ (S26 : MS), jJ X g res (mw g q S26) 0 0 114 [(0, .ref (q 0))] [] (k8 S26)) : ∀ (n : Nat) (S5 : MS) (x4 : Int32), jJ X g res (mw g q S5) 0 0 28 [(0, .ref (q 0)), (4, .int x4)] [] (L_X12_write_28 k8 n S5 x4) := by
  refine r_lo2 (fun S5 x4 => mw g q S5) (fun S5 x4 => [(0, .ref (q 0)), (4, .int x4)]) (fun rec6 ih7 S5 x4 => ?_)
  refine r_iload (pc := 28) C dX12_write_28 1 rfl ?_
  refine r_aload_n (pc := 30) C dX12_write_30 0 rfl ?_
  refine mg_links (pc := 31) C dX12_write_31 ?_
  refine r_icmp_ge 114 (pc := 34) C dX12_write_34 (by decide) ?_ ?_
  · refine r_sub (lv' := [(0, .ref (q 0))]) [0] rfl ?_
    exact hk9 S5
  · refine r_iload (pc := 37) C dX12_write_37 1 rfl ?_
    refine r_jn1 48 (fun (S10 : MS) => mw g q S10) (fun (S10 : MS) => [(0, .ref (q 0)), (4, .int x4)]) (fun (S10 : MS) => []) (fun S10 => ?_) (fun k23 hk24 => ?_)
    · refine r_iload (pc := 48) C dX12_write_48 1 rfl ?_
      refine r_jn1 76 (fun (S11 : MS) => mw g q S11) (fun (S11 : MS) => [(0, .ref (q 0)), (4, .int x4)]) (fun (S11 : MS) => []) (fun S11 => ?_) (fun k18 hk19 => ?_)
      · refine r_aload_n (pc := 76) C dX12_write_76 0 rfl ?_
        refine r_aload_n (pc := 77) C dX12_write_77 0 rfl ?_
        refine r_iload (pc := 78) C dX12_write_78 1 rfl ?_
        refine r_cVpi (As := [.int x4]) (st := [.ref (q 0)]) (pc := 80) C (fun _ h => c_X12_value h) kY_X12_value kw_7_130 kw_0_77 kw_7_128 rfl ⟨Nat.le_of_ble_eq_true rfl, Nat.le_of_ble_eq_true rfl⟩ rfl rfl ⟨Nat.zero_le _, Nat.zero_le _⟩ 0 rfl rfl rfl (Nat.le_of_ble_eq_true rfl) dX12_write_80 (fun x12 => ?_)
        refine r_cVwv (As := [.int x12]) (st := []) (wf := mw g q) (pc := 83) C (fun _ h => c_X12_writeNumber h) kY_X12_writeNumber kw_8_89 kw_0_96 kw_8_87 rfl ⟨Nat.le_of_ble_eq_true rfl, Nat.le_of_ble_eq_true rfl⟩ rfl rfl ⟨Nat.zero_le _, Nat.zero_le _⟩ 0 rfl rfl rfl (Nat.le_of_ble_eq_true rfl) dX12_write_83 (fun S13 => ?_)
        refine r_aload_n (pc := 86) C dX12_write_86 0 rfl ?_
        refine r_bipush (pc := 87) C dX12_write_87 (v := 47) (by decide) ?_
        refine r_cVwv (As := [.int 47]) (st := []) (wf := mw g q) (pc := 89) C (fun _ h => c_X12_writes h) kY_X12_writes kw_8_85 kw_0_95 kw_8_83 rfl ⟨Nat.le_of_ble_eq_true rfl, Nat.le_of_ble_eq_true rfl⟩ rfl rfl ⟨Nat.zero_le _, Nat.zero_le _⟩ 0 rfl rfl rfl (Nat.le_of_ble_eq_true rfl) dX12_write_89 (fun S14 => ?_)
        refine r_aload_n (pc := 92) C dX12_write_92 0 rfl ?_
        refine r_aload_n (pc := 93) C dX12_write_93 0 rfl ?_
        refine r_aload_n (pc := 94) C dX12_write_94 0 rfl ?_
        refine mg_link (pc := 95) C dX12_write_95 ?_
        refine r_iload (pc := 98) C dX12_write_98 1 rfl ?_
        refine ml_link (pc := 100) C dX12_write_100 ?_
        refine r_iconst (pc := 101) C dX12_write_101 (v := 1) (by decide) ?_
        refine r_cVpi (As := [.int (S14.2 19 x4.toNatClampNeg), .int 1]) (st := [.ref (q 0)]) (pc := 102) C (fun _ h => c_X12_of h) kY_X12_of kw_7_27 kw_0_64 kw_7_25 rfl ⟨Nat.le_of_ble_eq_true rfl, Nat.le_of_ble_eq_true rfl⟩ rfl rfl ⟨Nat.zero_le _, Nat.zero_le _⟩ 0 rfl rfl rfl (Nat.le_of_ble_eq_true rfl) dX12_write_102 (fun x15 => ?_)
        refine r_cVwv (As := [.int x15]) (st := []) (wf := mw g q) (pc := 105) C (fun _ h => c_X12_writeNumber h) kY_X12_writeNumber kw_8_89 kw_0_96 kw_8_87 rfl ⟨Nat.le_of_ble_eq_true rfl, Nat.le_of_ble_eq_true rfl⟩ rfl rfl ⟨Nat.zero_le _, Nat.zero_le _⟩ 0 rfl rfl rfl (Nat.le_of_ble_eq_true rfl) dX12_write_105 (fun S16 => ?_)
        refine r_iinc (pc := 108) C dX12_write_108 (v := 1) (lv' := fun x17 => [(0, .ref (q 0)), (4, .int x17)]) 1 rfl (by decide) (by decide) [1, 0] (fun _ => rfl) (fun x17 => ?_)
        refine r_goto 28 (pc := 111) C dX12_write_111 (by decide) ?_
        exact ih7 S16 x17
      · refine r_if_le 76 (pc := 50) C dX12_write_50 (by decide) ?_ ?_
        · exact hk19 S10
        · refine r_aload_n (pc := 53) C dX12_write_53 0 rfl ?_
          refine r_iload (pc := 54) C dX12_write_54 1 rfl ?_
          refine r_cVpi (As := [.int x4]) (st := []) (pc := 56) C (fun _ h => c_X12_value h) kY_X12_value kw_7_130 kw_0_77 kw_7_128 rfl ⟨Nat.le_of_ble_eq_true rfl, Nat.le_of_ble_eq_true rfl⟩ rfl rfl ⟨Nat.zero_le _, Nat.zero_le _⟩ 0 rfl rfl rfl (Nat.le_of_ble_eq_true rfl) dX12_write_56 (fun x20 => ?_)
          refine r_aload_n (pc := 59) C dX12_write_59 0 rfl ?_
          refine r_iload (pc := 60) C dX12_write_60 1 rfl ?_
          refine r_iconst (pc := 62) C dX12_write_62 (v := 1) (by decide) ?_
          refine r_isub (pc := 63) C dX12_write_63 ?_
          refine r_cVpi (As := [.int (x4 - 1)]) (st := [.int x20]) (pc := 64) C (fun _ h => c_X12_value h) kY_X12_value kw_7_130 kw_0_77 kw_7_128 rfl ⟨Nat.le_of_ble_eq_true rfl, Nat.le_of_ble_eq_true rfl⟩ rfl rfl ⟨Nat.zero_le _, Nat.zero_le _⟩ 0 rfl rfl rfl (Nat.le_of_ble_eq_true rfl) dX12_write_64 (fun x21 => ?_)
          refine r_icmp_ne 76 (pc := 67) C dX12_write_67 (by decide) ?_ ?_
          · exact hk19 S10
          · refine r_aload_n (pc := 70) C dX12_write_70 0 rfl ?_
            refine r_bipush (pc := 71) C dX12_write_71 (v := 61) (by decide) ?_
            refine r_cVwv (As := [.int 61]) (st := []) (wf := mw g q) (pc := 73) C (fun _ h => c_X12_writes h) kY_X12_writes kw_8_85 kw_0_95 kw_8_83 rfl ⟨Nat.le_of_ble_eq_true rfl, Nat.le_of_ble_eq_true rfl⟩ rfl rfl ⟨Nat.zero_le _, Nat.zero_le _⟩ 0 rfl rfl rfl (Nat.le_of_ble_eq_true rfl) dX12_write_73 (fun S22 => ?_)
            exact hk19 S22
    · refine r_if_le 48 (pc := 39) C dX12_write_39 (by decide) ?_ ?_
      · exact hk24 S5
      · refine r_aload_n (pc := 42) C dX12_write_42 0 rfl ?_
        refine r_bipush (pc := 43) C dX12_write_43 (v := 32) (by decide) ?_
        refine r_cVwv (As := [.int 32]) (st := []) (wf := mw g q) (pc := 45) C (fun _ h => c_X12_writes h) kY_X12_writes kw_8_85 kw_0_95 kw_8_83 rfl ⟨Nat.le_of_ble_eq_true rfl, Nat.le_of_ble_eq_true rfl⟩ rfl rfl ⟨Nat.zero_le _, Nat.zero_le _⟩ 0 rfl rfl rfl (Nat.le_of_ble_eq_true rfl) dX12_write_45 (fun S25 => ?_)
        exact hk24 S25
set_option maxRecDepth 100000 in
theorem v_X12_write_28 {S0 : MS} {k8 : MS → Option (Int32 × MS)} (hk9 : ∀ (S26 : MS), (fI [20, 32] [18, 19, 31] S0) S26 → jf (fI [20, 32] [18, 19, 31] S0) Prod.snd (k8 S26)) : ∀ (n : Nat) (S5 : MS) (x4 : Int32), (fI [20, 32] [18, 19, 31] S0) S5 → jf (fI [20, 32] [18, 19, 31] S0) Prod.snd (L_X12_write_28 k8 n S5 x4) := by
  refine f_lo2 (I := (fI [20, 32] [18, 19, 31] S0)) (fun S5 x4 => S5) (fun rec6 ih7 S5 x4 hS5 => ?_)
  refine f_ite ?_ ?_
  · exact hk9 S5 hS5
  · refine f_jn1 (fun S10 hS10 => ?_) (fun k23 hk24 => ?_)
    · refine f_jn1 (fun S11 hS11 => ?_) (fun k18 hk19 => ?_)
      · refine f_bp (fun x12 => ?_)
        refine f_bpS (fun _ h => fI_tr hS11 (w_X12_writeNumber h) (by decide) (by decide)) (fun S13 hS13 => ?_)
        refine f_bpS (fun _ h => fI_tr hS13 (w_X12_writes h) (by decide) (by decide)) (fun S14 hS14 => ?_)
        refine f_chk ?_
        refine f_bp (fun x15 => ?_)
        refine f_bpS (fun _ h => fI_tr hS14 (w_X12_writeNumber h) (by decide) (by decide)) (fun S16 hS16 => ?_)
        refine f_lt (fun x17 => ?_)
        exact ih7 S16 x17 hS16
      · refine f_ite ?_ ?_
        · exact hk19 S10 hS10
        · refine f_bp (fun x20 => ?_)
          refine f_bp (fun x21 => ?_)
          refine f_ite ?_ ?_
          · refine f_bpS (fun _ h => fI_tr hS10 (w_X12_writes h) (by decide) (by decide)) (fun S22 hS22 => ?_)
            exact hk19 S22 hS22
          · exact hk19 S10 hS10
    · refine f_ite ?_ ?_
      · exact hk24 S5 hS5
      · refine f_bpS (fun _ h => fI_tr hS5 (w_X12_writes h) (by decide) (by decide)) (fun S25 hS25 => ?_)
        exact hk24 S25 hS25
def f_X12_write (S : MS) (a1 : Int32) (a2 : Int32) (a3 : Int32) : Option (Int32 × MS) :=
  bp (f_X12_canAsk S a1 a2 a3) (fun x1 =>
  (if x1 = true then
  bp (f_X12_layChain S a1 a2 a3) (fun S2 =>
  lt (si S2 32 0) fun S3 =>
  L_X12_write_28 (fun S27 =>
  some (S27.1 32, S27)) FU S3 0)
 else
  some ((-2), S)))
set_option maxRecDepth 100000 in
set_option maxHeartbeats 4000000 in
theorem c_X12_write {g : KG} {q : Nat → Nat} {S : MS} {a1 : Int32} {a2 : Int32} {a3 : Int32} {r : Int32} {S' : MS} (h : f_X12_write S a1 a2 a3 = some (r, S')) : ∀ l, kM l yX12_write cX12_write 5 (some .int) rm_X12_write g [.ref (q 0), .int a1, .int a2, .int a3] (mw g q S) (mw g q S') (some (.int r)) 0 0 := by
  refine k_open_i (own := "MarkChainsModel") (by decide) rfl (Nat.le_of_ble_eq_true rfl) (fun X C hR => ?_)
  refine (?_ : jJ X g ((r, S') : Int32 × MS) (mw g q S) 0 0 0 [(0, .ref (q 0)), (1, .int a1), (2, .int a2), (3, .int a3)] [] (f_X12_write S a1 a2 a3)) h
  unfold f_X12_write
  refine r_aload_n (pc := 0) C dX12_write_0 0 rfl ?_
  refine r_iload_n (pc := 1) C dX12_write_1 1 rfl ?_
  refine r_iload_n (pc := 2) C dX12_write_2 2 rfl ?_
  refine r_iload_n (pc := 3) C dX12_write_3 3 rfl ?_
  refine r_cVpz (As := [.int a1, .int a2, .int a3]) (st := []) (pc := 4) C (fun _ h => c_X12_canAsk h) kY_X12_canAsk kw_7_102 kw_0_71 kw_7_100 rfl ⟨Nat.le_of_ble_eq_true rfl, Nat.le_of_ble_eq_true rfl⟩ rfl rfl ⟨Nat.zero_le _, Nat.zero_le _⟩ 0 rfl rfl rfl (Nat.le_of_ble_eq_true rfl) dX12_write_4 (fun x1 => ?_)
  refine r_ifb_ne 13 (pc := 7) C dX12_write_7 (by decide) ?_ ?_
  · refine r_aload_n (pc := 13) C dX12_write_13 0 rfl ?_
    refine r_iload_n (pc := 14) C dX12_write_14 1 rfl ?_
    refine r_iload_n (pc := 15) C dX12_write_15 2 rfl ?_
    refine r_iload_n (pc := 16) C dX12_write_16 3 rfl ?_
    refine r_cVwv (As := [.int a1, .int a2, .int a3]) (st := []) (wf := mw g q) (pc := 17) C (fun _ h => c_X12_layChain h) kY_X12_layChain kw_7_106 kw_0_72 kw_7_104 rfl ⟨Nat.le_of_ble_eq_true rfl, Nat.le_of_ble_eq_true rfl⟩ rfl rfl ⟨Nat.zero_le _, Nat.zero_le _⟩ 0 rfl rfl rfl (Nat.le_of_ble_eq_true rfl) dX12_write_17 (fun S2 => ?_)
    refine r_aload_n (pc := 20) C dX12_write_20 0 rfl ?_
    refine r_iconst (pc := 21) C dX12_write_21 (v := 0) (by decide) ?_
    refine mp_writtenLong (pc := 22) C dX12_write_22 (fun S3 => ?_)
    refine r_iconst (pc := 25) C dX12_write_25 (v := 0) (by decide) ?_
    refine r_istore (pc := 26) C dX12_write_26 (lv' := [(0, .ref (q 0)), (1, .int a1), (2, .int a2), (3, .int a3), (4, .int 0)]) (by decide) [1, 2, 3, 4, 0] rfl ?_
    refine r_sub (lv' := [(0, .ref (q 0)), (4, .int 0)]) [0, 4] rfl ?_
    refine l_X12_write_28 C hR _ (fun S27 => ?_) FU S3 0
    refine r_aload_n (pc := 114) C dX12_write_114 0 rfl ?_
    refine mg_writtenLong (pc := 115) C dX12_write_115 ?_
    exact r_retWI (wf := mw g q) hR (pc := 118) dX12_write_118
  · refine r_bipush (pc := 10) C dX12_write_10 (v := (-2)) (by decide) ?_
    exact r_retWI (wf := mw g q) hR (pc := 12) dX12_write_12
set_option maxRecDepth 100000 in
theorem w_X12_write {S : MS} {a1 : Int32} {a2 : Int32} {a3 : Int32} {r : Int32} {S' : MS} (h : f_X12_write S a1 a2 a3 = some (r, S')) : fI [20, 32] [18, 19, 31] S S' := by
  have hS : fI [20, 32] [18, 19, 31] S S := fI_rf
  refine (?_ : jf (fI [20, 32] [18, 19, 31] S) Prod.snd (f_X12_write S a1 a2 a3)) _ h
  unfold f_X12_write
  refine f_bp (fun x1 => ?_)
  refine f_ite ?_ ?_
  · refine f_bpS (fun _ h => fI_tr hS (w_X12_layChain h) (by decide) (by decide)) (fun S2 hS2 => ?_)
    refine f_ltS (fI_si hS2 (by decide)) (fun S3 hS3 => ?_)
    refine v_X12_write_28 (fun S27 hS27 => ?_) FU S3 0 hS3
    exact f_some hS27
  · exact f_some hS
abbrev rm_X12_octet : Room := { frames := 1, cells := 0, slots := 0, locals := 22 }
theorem kY_X12_octet : kY yX12_octet cX12_octet 2 (some .int) 1 := ⟨kw_1_13, kw_8_94, by decide, by decide, by decide +kernel⟩
def f_X12_octet (S : MS) (a1 : Int32) : Option (Int32) :=
  bp (f_X12_isIn a1 0 ((S.1 32) - 1)) (fun x1 =>
  (if x1 = true then
  chk a1 400 (
  some (S.2 31 a1.toNatClampNeg))
 else
  some (-1)))
set_option maxRecDepth 100000 in
set_option maxHeartbeats 4000000 in
theorem c_X12_octet {g : KG} {q : Nat → Nat} {S : MS} {a1 : Int32} {r : Int32} (h : f_X12_octet S a1 = some r) : ∀ l, kM l yX12_octet cX12_octet 2 (some .int) rm_X12_octet g [.ref (q 0), .int a1] (mw g q S) (mw g q S) (some (.int r)) 0 0 := by
  refine k_open_i (own := "MarkChainsModel") (by decide) rfl (Nat.le_of_ble_eq_true rfl) (fun X C hR => ?_)
  refine (?_ : jJ X g (r : Int32) (mw g q S) 0 0 0 [(0, .ref (q 0)), (1, .int a1)] [] (f_X12_octet S a1)) h
  unfold f_X12_octet
  refine r_iload_n (pc := 0) C dX12_octet_0 1 rfl ?_
  refine r_iconst (pc := 1) C dX12_octet_1 (v := 0) (by decide) ?_
  refine r_aload_n (pc := 2) C dX12_octet_2 0 rfl ?_
  refine mg_writtenLong (pc := 3) C dX12_octet_3 ?_
  refine r_iconst (pc := 6) C dX12_octet_6 (v := 1) (by decide) ?_
  refine r_isub (pc := 7) C dX12_octet_7 ?_
  refine r_cSpz (As := [.int a1, .int 0, .int ((S.1 32) - 1)]) (st := []) (pc := 8) C (fun _ h => c_X12_isIn h) kY_X12_isIn kw_6_124 kw_6_123 rfl ⟨Nat.le_of_ble_eq_true rfl, Nat.le_of_ble_eq_true rfl⟩ rfl rfl ⟨Nat.zero_le _, Nat.zero_le _⟩ rfl (Nat.le_of_ble_eq_true rfl) dX12_octet_8 (fun x1 => ?_)
  refine r_ifb_eq 23 (pc := 11) C dX12_octet_11 (by decide) ?_ ?_
  · refine r_iconst (pc := 23) C dX12_octet_23 (v := (-1)) (by decide) ?_
    exact r_retPI hR (pc := 24) dX12_octet_24
  · refine r_aload_n (pc := 14) C dX12_octet_14 0 rfl ?_
    refine mg_written (pc := 15) C dX12_octet_15 ?_
    refine r_iload_n (pc := 18) C dX12_octet_18 1 rfl ?_
    refine ml_written (pc := 19) C dX12_octet_19 ?_
    refine r_goto 24 (pc := 20) C dX12_octet_20 (by decide) ?_
    exact r_retPI hR (pc := 24) dX12_octet_24
