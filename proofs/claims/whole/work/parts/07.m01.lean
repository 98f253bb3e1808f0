abbrev rm_X12_readItem : Room := { frames := 4, cells := 0, slots := 0, locals := 96 }
theorem kY_X12_readItem : kY yX12_readItem cX12_readItem 1 (some .boolean) 0 := ⟨kw_1_13, kw_6_145, by decide, by decide, by decide +kernel⟩
def f_X12_readItem (S : MS) : Option (Bool × MS) :=
  bp (f_X12_here S) (fun x1 =>
  (if x1 = 97 then
  bw (f_X12_readTwo S 2 33 16 (-30000) 20000 0 5) (fun x2 S3 =>
  some (x2, S3))
 else
  (if x1 = 101 then
  bw (f_X12_readTwo S 0 5 6 0 1 (-1) 99) (fun x4 S5 =>
  some (x4, S5))
 else
  (if x1 = 109 then
  bw (f_X12_readMark S) (fun x6 S7 =>
  some (x6, S7))
 else
  (if x1 = 112 then
  bw (f_X12_readTwo S 1 17 8 0 5 0 5000) (fun x8 S9 =>
  some (x8, S9))
 else
  bw (f_X12_fails S (S.1 6)) (fun x10 S11 =>
  some (x10, S11)))))))
set_option maxRecDepth 100000 in
set_option maxHeartbeats 4000000 in
theorem c_X12_readItem {g : KG} {q : Nat → Nat} {S : MS}  {r : Bool} {S' : MS} (h : f_X12_readItem S = some (r, S')) : ∀ l, kM l yX12_readItem cX12_readItem 1 (some .boolean) rm_X12_readItem g [.ref (q 0)] (mw g q S) (mw g q S') (some (.int (b2 r))) 0 0 := by
  refine k_open_z (own := "MarkChainsModel") (by decide) rfl (Nat.le_of_ble_eq_true rfl) (fun X C hR => ?_)
  refine (?_ : jJ X g ((r, S') : Bool × MS) (mw g q S) 0 0 0 [(0, .ref (q 0))] [] (f_X12_readItem S)) h
  unfold f_X12_readItem
  refine r_aload_n (pc := 0) C dX12_readItem_0 0 rfl ?_
  refine r_cVpi (As := []) (st := []) (pc := 1) C (fun _ h => c_X12_here h) kY_X12_here kw_6_148 kw_0_41 kw_6_146 rfl ⟨Nat.le_of_ble_eq_true rfl, Nat.le_of_ble_eq_true rfl⟩ rfl rfl ⟨Nat.zero_le _, Nat.zero_le _⟩ 0 rfl rfl rfl (Nat.le_of_ble_eq_true rfl) dX12_readItem_1 (fun x1 => ?_)
  refine r_case (fun h4_0 => ?_) (fun h4_0 => ?_)
  · refine r_lookIn (off := 74) 78 (pc := 4) C dX12_readItem_4 h4_0 (by decide) (by decide) (by decide) ?_
    refine r_aload_n (pc := 78) C dX12_readItem_78 0 rfl ?_
    refine r_iconst (pc := 79) C dX12_readItem_79 (v := 2) (by decide) ?_
    refine r_bipush (pc := 80) C dX12_readItem_80 (v := 33) (by decide) ?_
    refine r_bipush (pc := 82) C dX12_readItem_82 (v := 16) (by decide) ?_
    refine r_sipush (pc := 84) C dX12_readItem_84 (v := (-30000)) (by decide) ?_
    refine r_sipush (pc := 87) C dX12_readItem_87 (v := 20000) (by decide) ?_
    refine r_iconst (pc := 90) C dX12_readItem_90 (v := 0) (by decide) ?_
    refine r_iconst (pc := 91) C dX12_readItem_91 (v := 5) (by decide) ?_
    refine r_cVwz (As := [.int 2, .int 33, .int 16, .int (-30000), .int 20000, .int 0, .int 5]) (st := []) (wf := mw g q) (pc := 92) C (fun _ _ h => c_X12_readTwo h) kY_X12_readTwo kw_6_152 kw_0_42 kw_6_150 rfl ⟨Nat.le_of_ble_eq_true rfl, Nat.le_of_ble_eq_true rfl⟩ rfl rfl ⟨Nat.zero_le _, Nat.zero_le _⟩ 0 rfl rfl rfl (Nat.le_of_ble_eq_true rfl) dX12_readItem_92 (fun x2 S3 => ?_)
    exact r_retWZ hR rfl (pc := 95) dX12_readItem_95
  · refine r_case (fun h4_1 => ?_) (fun h4_1 => ?_)
    · refine r_lookIn (off := 44) 48 (pc := 4) C dX12_readItem_4 h4_1 (by decide) (by decide) (by decide) ?_
      refine r_aload_n (pc := 48) C dX12_readItem_48 0 rfl ?_
      refine r_iconst (pc := 49) C dX12_readItem_49 (v := 0) (by decide) ?_
      refine r_iconst (pc := 50) C dX12_readItem_50 (v := 5) (by decide) ?_
      refine r_bipush (pc := 51) C dX12_readItem_51 (v := 6) (by decide) ?_
      refine r_iconst (pc := 53) C dX12_readItem_53 (v := 0) (by decide) ?_
      refine r_iconst (pc := 54) C dX12_readItem_54 (v := 1) (by decide) ?_
      refine r_iconst (pc := 55) C dX12_readItem_55 (v := (-1)) (by decide) ?_
      refine r_bipush (pc := 56) C dX12_readItem_56 (v := 99) (by decide) ?_
      refine r_cVwz (As := [.int 0, .int 5, .int 6, .int 0, .int 1, .int (-1), .int 99]) (st := []) (wf := mw g q) (pc := 58) C (fun _ _ h => c_X12_readTwo h) kY_X12_readTwo kw_6_152 kw_0_42 kw_6_150 rfl ⟨Nat.le_of_ble_eq_true rfl, Nat.le_of_ble_eq_true rfl⟩ rfl rfl ⟨Nat.zero_le _, Nat.zero_le _⟩ 0 rfl rfl rfl (Nat.le_of_ble_eq_true rfl) dX12_readItem_58 (fun x4 S5 => ?_)
      exact r_retWZ hR rfl (pc := 61) dX12_readItem_61
    · refine r_case (fun h4_2 => ?_) (fun h4_2 => ?_)
      · refine r_lookIn (off := 92) 96 (pc := 4) C dX12_readItem_4 h4_2 (by decide) (by decide) (by decide) ?_
        refine r_aload_n (pc := 96) C dX12_readItem_96 0 rfl ?_
        refine r_cVwz (As := []) (st := []) (wf := mw g q) (pc := 97) C (fun _ _ h => c_X12_readMark h) kY_X12_readMark kw_6_175 kw_0_47 kw_6_173 rfl ⟨Nat.le_of_ble_eq_true rfl, Nat.le_of_ble_eq_true rfl⟩ rfl rfl ⟨Nat.zero_le _, Nat.zero_le _⟩ 0 rfl rfl rfl (Nat.le_of_ble_eq_true rfl) dX12_readItem_97 (fun x6 S7 => ?_)
        exact r_retWZ hR rfl (pc := 100) dX12_readItem_100
      · refine r_case (fun h4_3 => ?_) (fun h4_3 => ?_)
        · refine r_lookIn (off := 58) 62 (pc := 4) C dX12_readItem_4 h4_3 (by decide) (by decide) (by decide) ?_
          refine r_aload_n (pc := 62) C dX12_readItem_62 0 rfl ?_
          refine r_iconst (pc := 63) C dX12_readItem_63 (v := 1) (by decide) ?_
          refine r_bipush (pc := 64) C dX12_readItem_64 (v := 17) (by decide) ?_
          refine r_bipush (pc := 66) C dX12_readItem_66 (v := 8) (by decide) ?_
          refine r_iconst (pc := 68) C dX12_readItem_68 (v := 0) (by decide) ?_
          refine r_iconst (pc := 69) C dX12_readItem_69 (v := 5) (by decide) ?_
          refine r_iconst (pc := 70) C dX12_readItem_70 (v := 0) (by decide) ?_
          refine r_sipush (pc := 71) C dX12_readItem_71 (v := 5000) (by decide) ?_
          refine r_cVwz (As := [.int 1, .int 17, .int 8, .int 0, .int 5, .int 0, .int 5000]) (st := []) (wf := mw g q) (pc := 74) C (fun _ _ h => c_X12_readTwo h) kY_X12_readTwo kw_6_152 kw_0_42 kw_6_150 rfl ⟨Nat.le_of_ble_eq_true rfl, Nat.le_of_ble_eq_true rfl⟩ rfl rfl ⟨Nat.zero_le _, Nat.zero_le _⟩ 0 rfl rfl rfl (Nat.le_of_ble_eq_true rfl) dX12_readItem_74 (fun x8 S9 => ?_)
          exact r_retWZ hR rfl (pc := 77) dX12_readItem_77
        · refine r_look (off := 97) 101 (pc := 4) C dX12_readItem_4 (by decide) (by rw [show (#[(97, 74), (101, 44), (109, 92), (112, 58)] : Array (Int × Int)).toList = [(97, 74), (101, 44), (109, 92), (112, 58)] from rfl, lv_osw h4_0 (by decide), lv_osw h4_1 (by decide), lv_osw h4_2 (by decide), lv_osw h4_3 (by decide)]; rfl) (by decide) ?_
          refine r_aload_n (pc := 101) C dX12_readItem_101 0 rfl ?_
          refine r_aload_n (pc := 102) C dX12_readItem_102 0 rfl ?_
          refine mg_at (pc := 103) C dX12_readItem_103 ?_
          refine r_cVwz (As := [.int (S.1 6)]) (st := []) (wf := mw g q) (pc := 106) C (fun _ _ h => c_X12_fails h) kY_X12_fails kw_6_156 kw_0_43 kw_6_154 rfl ⟨Nat.le_of_ble_eq_true rfl, Nat.le_of_ble_eq_true rfl⟩ rfl rfl ⟨Nat.zero_le _, Nat.zero_le _⟩ 0 rfl rfl rfl (Nat.le_of_ble_eq_true rfl) dX12_readItem_106 (fun x10 S11 => ?_)
          exact r_retWZ hR rfl (pc := 109) dX12_readItem_109
set_option maxRecDepth 100000 in
theorem w_X12_readItem {S : MS}  {r : Bool} {S' : MS} (h : f_X12_readItem S = some (r, S')) : fI [6, 7, 8] [0] S S' := by
  have hS : fI [6, 7, 8] [0] S S := fI_rf
  refine (?_ : jf (fI [6, 7, 8] [0] S) Prod.snd (f_X12_readItem S)) _ h
  unfold f_X12_readItem
  refine f_bp (fun x1 => ?_)
  refine f_ite ?_ ?_
  · refine f_bwS (fun _ _ h => fI_tr hS (w_X12_readTwo h) (by decide) (by decide)) (fun x2 S3 hS3 => ?_)
    exact f_some hS3
  · refine f_ite ?_ ?_
    · refine f_bwS (fun _ _ h => fI_tr hS (w_X12_readTwo h) (by decide) (by decide)) (fun x4 S5 hS5 => ?_)
      exact f_some hS5
    · refine f_ite ?_ ?_
      · refine f_bwS (fun _ _ h => fI_tr hS (w_X12_readMark h) (by decide) (by decide)) (fun x6 S7 hS7 => ?_)
        exact f_some hS7
      · refine f_ite ?_ ?_
        · refine f_bwS (fun _ _ h => fI_tr hS (w_X12_readTwo h) (by decide) (by decide)) (fun x8 S9 hS9 => ?_)
          exact f_some hS9
        · refine f_bwS (fun _ _ h => fI_tr hS (w_X12_fails h) (by decide) (by decide)) (fun x10 S11 hS11 => ?_)
          exact f_some hS11
abbrev rm_X12_beginText : Room := { frames := 0, cells := 0, slots := 0, locals := 0 }
theorem kY_X12_beginText : kY yX12_beginText cX12_beginText 1 none 0 := ⟨kw_1_13, kw_6_141, by decide, by decide, by decide +kernel⟩
def f_X12_beginText (S : MS) : Option (MS) :=
  lt (si S 6 0) fun S1 =>
  lt (si S1 7 (-1)) fun S2 =>
  some S2
set_option maxRecDepth 100000 in
set_option maxHeartbeats 4000000 in
theorem c_X12_beginText {g : KG} {q : Nat → Nat} {S : MS}  {S' : MS} (h : f_X12_beginText S = some S') : ∀ l, kM l yX12_beginText cX12_beginText 1 none rm_X12_beginText g [.ref (q 0)] (mw g q S) (mw g q S') (none) 0 0 := by
  refine k_open_v (own := "MarkChainsModel") (by decide) rfl (Nat.le_of_ble_eq_true rfl) (fun X C hR => ?_)
  refine (?_ : jJ X g (S' : MS) (mw g q S) 0 0 0 [(0, .ref (q 0))] [] (f_X12_beginText S)) h
  unfold f_X12_beginText
  refine r_aload_n (pc := 0) C dX12_beginText_0 0 rfl ?_
  refine r_iconst (pc := 1) C dX12_beginText_1 (v := 0) (by decide) ?_
  refine mp_at (pc := 2) C dX12_beginText_2 (fun S1 => ?_)
  refine r_aload_n (pc := 5) C dX12_beginText_5 0 rfl ?_
  refine r_iconst (pc := 6) C dX12_beginText_6 (v := (-1)) (by decide) ?_
  refine mp_faultPlace (pc := 7) C dX12_beginText_7 (fun S2 => ?_)
  exact r_retWV (wf := mw g q) hR (pc := 10) dX12_beginText_10
set_option maxRecDepth 100000 in
theorem w_X12_beginText {S : MS}  {S' : MS} (h : f_X12_beginText S = some S') : fI [6, 7] [] S S' := by
  have hS : fI [6, 7] [] S S := fI_rf
  refine (?_ : jf (fI [6, 7] [] S) id (f_X12_beginText S)) _ h
  unfold f_X12_beginText
  refine f_ltS (fI_si hS (by decide)) (fun S1 hS1 => ?_)
  refine f_ltS (fI_si hS1 (by decide)) (fun S2 hS2 => ?_)
  exact f_some hS2
abbrev rm_X12_countItems : Room := { frames := 0, cells := 0, slots := 0, locals := 0 }
theorem kY_X12_countItems : kY yX12_countItems cX12_countItems 1 (some .int) 0 := ⟨kw_1_13, kw_6_137, by decide, by decide, by decide +kernel⟩
def f_X12_countItems (S : MS) : Option (Int32) :=
  chk 0 1177 (
  chk 1 1177 (
  chk 2 1177 (
  chk 3 1177 (
  some ((((S.2 0 (0 : Int32).toNatClampNeg) + (S.2 0 (1 : Int32).toNatClampNeg)) + (S.2 0 (2 : Int32).toNatClampNeg)) + (S.2 0 (3 : Int32).toNatClampNeg))))))
set_option maxRecDepth 100000 in
set_option maxHeartbeats 4000000 in
theorem c_X12_countItems {g : KG} {q : Nat → Nat} {S : MS}  {r : Int32} (h : f_X12_countItems S = some r) : ∀ l, kM l yX12_countItems cX12_countItems 1 (some .int) rm_X12_countItems g [.ref (q 0)] (mw g q S) (mw g q S) (some (.int r)) 0 0 := by
  refine k_open_i (own := "MarkChainsModel") (by decide) rfl (Nat.le_of_ble_eq_true rfl) (fun X C hR => ?_)
  refine (?_ : jJ X g (r : Int32) (mw g q S) 0 0 0 [(0, .ref (q 0))] [] (f_X12_countItems S)) h
  unfold f_X12_countItems
  refine r_aload_n (pc := 0) C dX12_countItems_0 0 rfl ?_
  refine mg_all (pc := 1) C dX12_countItems_1 ?_
  refine r_iconst (pc := 4) C dX12_countItems_4 (v := 0) (by decide) ?_
  refine ml_all (pc := 5) C dX12_countItems_5 ?_
  refine r_aload_n (pc := 6) C dX12_countItems_6 0 rfl ?_
  refine mg_all (pc := 7) C dX12_countItems_7 ?_
  refine r_iconst (pc := 10) C dX12_countItems_10 (v := 1) (by decide) ?_
  refine ml_all (pc := 11) C dX12_countItems_11 ?_
  refine r_iadd (pc := 12) C dX12_countItems_12 ?_
  refine r_aload_n (pc := 13) C dX12_countItems_13 0 rfl ?_
  refine mg_all (pc := 14) C dX12_countItems_14 ?_
  refine r_iconst (pc := 17) C dX12_countItems_17 (v := 2) (by decide) ?_
  refine ml_all (pc := 18) C dX12_countItems_18 ?_
  refine r_iadd (pc := 19) C dX12_countItems_19 ?_
  refine r_aload_n (pc := 20) C dX12_countItems_20 0 rfl ?_
  refine mg_all (pc := 21) C dX12_countItems_21 ?_
  refine r_iconst (pc := 24) C dX12_countItems_24 (v := 3) (by decide) ?_
  refine ml_all (pc := 25) C dX12_countItems_25 ?_
  refine r_iadd (pc := 26) C dX12_countItems_26 ?_
  exact r_retPI hR (pc := 27) dX12_countItems_27
abbrev rm_X12_text : Room := { frames := 5, cells := 0, slots := 0, locals := 116 }
theorem kY_X12_text : kY yX12_text cX12_text 6 (some .int) 0 := ⟨kw_1_13, kw_6_133, by decide, by decide, by decide +kernel⟩
def L_X12_text_2 (k5 : MS → Option (Int32 × MS)) : Nat → MS → Int32 → Option (Int32 × MS) := lo2 fun rec3 S2 x1 =>
  (if 1177 ≤ x1 then
  k5 S2
 else
  chk x1 1177 (
  chk x1 1177 (lt (sa S2 2 (upd (S2.2 2) x1.toNatClampNeg (S2.2 0 x1.toNatClampNeg))) fun S7 =>
  lt (x1 + 1) fun x8 =>
  rec3 S7 x8)))
set_option maxRecDepth 100000 in
set_option maxHeartbeats 4000000 in
theorem l_X12_text_2 {X : KX} {g : KG} {q : Nat → Nat} {res : Int32 × MS} (C : kC X g cX12_text "MarkChainsModel" rm_X12_text 6) (hR : ∀ (pc : Nat) (lv : List (Nat × Value)), decode cX12_text pc = .ok (.ireturn, 1) → jW X g (mw g q res.2) 0 0 pc lv [.int res.1]) (k5 : MS → Option (Int32 × MS)) (hk6 : ∀ (S9 : MS), jJ X g res (mw g q S9) 0 0 27 [(0, .ref (q 0))] [] (k5 S9)) : ∀ (n : Nat) (S2 : MS) (x1 : Int32), jJ X g res (mw g q S2) 0 0 2 [(0, .ref (q 0)), (1, .int x1)] [] (L_X12_text_2 k5 n S2 x1) := by
  refine r_lo2 (fun S2 x1 => mw g q S2) (fun S2 x1 => [(0, .ref (q 0)), (1, .int x1)]) (fun rec3 ih4 S2 x1 => ?_)
  refine r_iload_n (pc := 2) C dX12_text_2 1 rfl ?_
  refine r_sipush (pc := 3) C dX12_text_3 (v := 1177) (by decide) ?_
  refine r_icmp_ge 27 (pc := 6) C dX12_text_6 (by decide) ?_ ?_
  · refine r_sub (lv' := [(0, .ref (q 0))]) [0] rfl ?_
    exact hk6 S2
  · refine r_aload_n (pc := 9) C dX12_text_9 0 rfl ?_
    refine mg_ahead (pc := 10) C dX12_text_10 ?_
    refine r_iload_n (pc := 13) C dX12_text_13 1 rfl ?_
    refine r_aload_n (pc := 14) C dX12_text_14 0 rfl ?_
    refine mg_all (pc := 15) C dX12_text_15 ?_
    refine r_iload_n (pc := 18) C dX12_text_18 1 rfl ?_
    refine ml_all (pc := 19) C dX12_text_19 ?_
    refine ms_ahead (pc := 20) C dX12_text_20 (fun S7 => ?_)
    refine r_iinc (pc := 21) C dX12_text_21 (v := 1) (lv' := fun x8 => [(0, .ref (q 0)), (1, .int x8)]) 1 rfl (by decide) (by decide) [1, 0] (fun _ => rfl) (fun x8 => ?_)
    refine r_goto 2 (pc := 24) C dX12_text_24 (by decide) ?_
    exact ih4 S7 x8
set_option maxRecDepth 100000 in
theorem v_X12_text_2 {S0 : MS} {k5 : MS → Option (Int32 × MS)} (hk6 : ∀ (S9 : MS), (fI [3, 5, 6, 7, 8] [0, 1, 2] S0) S9 → jf (fI [3, 5, 6, 7, 8] [0, 1, 2] S0) Prod.snd (k5 S9)) : ∀ (n : Nat) (S2 : MS) (x1 : Int32), (fI [3, 5, 6, 7, 8] [0, 1, 2] S0) S2 → jf (fI [3, 5, 6, 7, 8] [0, 1, 2] S0) Prod.snd (L_X12_text_2 k5 n S2 x1) := by
  refine f_lo2 (I := (fI [3, 5, 6, 7, 8] [0, 1, 2] S0)) (fun S2 x1 => S2) (fun rec3 ih4 S2 x1 hS2 => ?_)
  refine f_ite ?_ ?_
  · exact hk6 S2 hS2
  · refine f_chk ?_
    refine f_chk (f_ltS (fI_sa hS2 (by decide)) (fun S7 hS7 => ?_))
    refine f_lt (fun x8 => ?_)
    exact ih4 S7 x8 hS7
def L_X12_text_38 (k17 : MS → Int32 → Option (Int32 × MS)) : Nat → MS → Int32 → Option (Int32 × MS) := lo2 fun rec15 S14 x13 =>
  (if x13 = 0 then
  k17 S14 x13
 else
  (if (S14.1 5) ≤ (S14.1 6) then
  k17 S14 x13
 else
  bw (f_X12_readItem S14) (fun x19 S20 =>
  lt (b2 x19) fun x21 =>
  rec15 S20 x21)))
set_option maxRecDepth 100000 in
set_option maxHeartbeats 4000000 in
theorem l_X12_text_38 {X : KX} {g : KG} {q : Nat → Nat} {res : Int32 × MS} (C : kC X g cX12_text "MarkChainsModel" rm_X12_text 6) (hR : ∀ (pc : Nat) (lv : List (Nat × Value)), decode cX12_text pc = .ok (.ireturn, 1) → jW X g (mw g q res.2) 0 0 pc lv [.int res.1]) (c1 : Int32) (k17 : MS → Int32 → Option (Int32 × MS)) (hk18 : ∀ (S22 : MS) (x23 : Int32), jJ X g res (mw g q S22) 0 0 61 [(0, .ref (q 0)), (1, .int c1), (2, .int x23)] [] (k17 S22 x23)) : ∀ (n : Nat) (S14 : MS) (x13 : Int32), jJ X g res (mw g q S14) 0 0 38 [(0, .ref (q 0)), (1, .int c1), (2, .int x13)] [] (L_X12_text_38 k17 n S14 x13) := by
  refine r_lo2 (fun S14 x13 => mw g q S14) (fun S14 x13 => [(0, .ref (q 0)), (1, .int c1), (2, .int x13)]) (fun rec15 ih16 S14 x13 => ?_)
  refine r_iload_n (pc := 38) C dX12_text_38 2 rfl ?_
  refine r_if_eq 61 (pc := 39) C dX12_text_39 (by decide) ?_ ?_
  · exact hk18 S14 x13
  · refine r_aload_n (pc := 42) C dX12_text_42 0 rfl ?_
    refine mg_at (pc := 43) C dX12_text_43 ?_
    refine r_aload_n (pc := 46) C dX12_text_46 0 rfl ?_
    refine mg_taped (pc := 47) C dX12_text_47 ?_
    refine r_icmp_ge 61 (pc := 50) C dX12_text_50 (by decide) ?_ ?_
    · exact hk18 S14 x13
    · refine r_aload_n (pc := 53) C dX12_text_53 0 rfl ?_
      refine r_cVwz (As := []) (st := []) (wf := mw g q) (pc := 54) C (fun _ _ h => c_X12_readItem h) kY_X12_readItem kw_6_144 kw_0_40 kw_6_142 rfl ⟨Nat.le_of_ble_eq_true rfl, Nat.le_of_ble_eq_true rfl⟩ rfl rfl ⟨Nat.zero_le _, Nat.zero_le _⟩ 0 rfl rfl rfl (Nat.le_of_ble_eq_true rfl) dX12_text_54 (fun x19 S20 => ?_)
      refine r_istoreV_n (pc := 57) C dX12_text_57 (lv' := fun x21 => [(0, .ref (q 0)), (1, .int c1), (2, .int x21)]) (by decide) [1, 2, 0] (fun _ => rfl) (fun x21 => ?_)
      refine r_goto 38 (pc := 58) C dX12_text_58 (by decide) ?_
      exact ih16 S20 x21
set_option maxRecDepth 100000 in
theorem v_X12_text_38 {S0 : MS} {k17 : MS → Int32 → Option (Int32 × MS)} (hk18 : ∀ (S22 : MS) (x23 : Int32), (fI [3, 5, 6, 7, 8] [0, 1, 2] S0) S22 → jf (fI [3, 5, 6, 7, 8] [0, 1, 2] S0) Prod.snd (k17 S22 x23)) : ∀ (n : Nat) (S14 : MS) (x13 : Int32), (fI [3, 5, 6, 7, 8] [0, 1, 2] S0) S14 → jf (fI [3, 5, 6, 7, 8] [0, 1, 2] S0) Prod.snd (L_X12_text_38 k17 n S14 x13) := by
  refine f_lo2 (I := (fI [3, 5, 6, 7, 8] [0, 1, 2] S0)) (fun S14 x13 => S14) (fun rec15 ih16 S14 x13 hS14 => ?_)
  refine f_ite ?_ ?_
  · exact hk18 S14 x13 hS14
  · refine f_ite ?_ ?_
    · exact hk18 S14 x13 hS14
    · refine f_bwS (fun _ _ h => fI_tr hS14 (w_X12_readItem h) (by decide) (by decide)) (fun x19 S20 hS20 => ?_)
      refine f_lt (fun x21 => ?_)
      exact ih16 S20 x21 hS20
def L_X12_text_76 (k33 : MS → Option (Int32 × MS)) : Nat → MS → Int32 → Option (Int32 × MS) := lo2 fun rec31 S30 x29 =>
  (if 1177 ≤ x29 then
  k33 S30
 else
  chk x29 1177 (
  lt (S30.2 0 x29.toNatClampNeg) fun x35 =>
  chk x29 1177 (
  chk x29 1177 (lt (sa S30 0 (upd (S30.2 0) x29.toNatClampNeg (S30.2 2 x29.toNatClampNeg))) fun S36 =>
  chk x29 1177 (lt (sa S36 2 (upd (S36.2 2) x29.toNatClampNeg x35)) fun S37 =>
  lt (x29 + 1) fun x38 =>
  rec31 S37 x38)))))
set_option maxRecDepth 100000 in
set_option maxHeartbeats 4000000 in
theorem l_X12_text_76 {X : KX} {g : KG} {q : Nat → Nat} {res : Int32 × MS} (C : kC X g cX12_text "MarkChainsModel" rm_X12_text 6) (hR : ∀ (pc : Nat) (lv : List (Nat × Value)), decode cX12_text pc = .ok (.ireturn, 1) → jW X g (mw g q res.2) 0 0 pc lv [.int res.1]) (c2 : Int32) (c3 : Int32) (k33 : MS → Option (Int32 × MS)) (hk34 : ∀ (S39 : MS), jJ X g res (mw g q S39) 0 0 122 [(0, .ref (q 0)), (2, .int c2), (3, .int c3)] [] (k33 S39)) : ∀ (n : Nat) (S30 : MS) (x29 : Int32), jJ X g res (mw g q S30) 0 0 76 [(0, .ref (q 0)), (2, .int c2), (3, .int c3), (4, .int x29)] [] (L_X12_text_76 k33 n S30 x29) := by
  refine r_lo2 (fun S30 x29 => mw g q S30) (fun S30 x29 => [(0, .ref (q 0)), (2, .int c2), (3, .int c3), (4, .int x29)]) (fun rec31 ih32 S30 x29 => ?_)
  refine r_iload (pc := 76) C dX12_text_76 3 rfl ?_
  refine r_sipush (pc := 78) C dX12_text_78 (v := 1177) (by decide) ?_
  refine r_icmp_ge 122 (pc := 81) C dX12_text_81 (by decide) ?_ ?_
  · refine r_sub (lv' := [(0, .ref (q 0)), (2, .int c2), (3, .int c3)]) [0, 1, 2] rfl ?_
    exact hk34 S30
  · refine r_aload_n (pc := 84) C dX12_text_84 0 rfl ?_
    refine mg_all (pc := 85) C dX12_text_85 ?_
    refine r_iload (pc := 88) C dX12_text_88 3 rfl ?_
    refine ml_all (pc := 90) C dX12_text_90 ?_
    refine r_istoreV (pc := 91) C dX12_text_91 (lv' := fun x35 => [(0, .ref (q 0)), (2, .int c2), (3, .int c3), (4, .int x29), (5, .int x35)]) (by decide) [1, 2, 3, 4, 0] (fun _ => rfl) (fun x35 => ?_)
    refine r_aload_n (pc := 93) C dX12_text_93 0 rfl ?_
    refine mg_all (pc := 94) C dX12_text_94 ?_
    refine r_iload (pc := 97) C dX12_text_97 3 rfl ?_
    refine r_aload_n (pc := 99) C dX12_text_99 0 rfl ?_
    refine mg_ahead (pc := 100) C dX12_text_100 ?_
    refine r_iload (pc := 103) C dX12_text_103 3 rfl ?_
    refine ml_ahead (pc := 105) C dX12_text_105 ?_
    refine ms_all (pc := 106) C dX12_text_106 (fun S36 => ?_)
    refine r_aload_n (pc := 107) C dX12_text_107 0 rfl ?_
    refine mg_ahead (pc := 108) C dX12_text_108 ?_
    refine r_iload (pc := 111) C dX12_text_111 3 rfl ?_
    refine r_iload (pc := 113) C dX12_text_113 4 rfl ?_
    refine ms_ahead (pc := 115) C dX12_text_115 (fun S37 => ?_)
    refine r_iinc (pc := 116) C dX12_text_116 (v := 1) (lv' := fun x38 => [(0, .ref (q 0)), (2, .int c2), (3, .int c3), (4, .int x38), (5, .int x35)]) 3 rfl (by decide) (by decide) [1, 2, 3, 0, 4] (fun _ => rfl) (fun x38 => ?_)
    refine r_goto 76 (pc := 119) C dX12_text_119 (by decide) ?_
    refine r_sub (lv' := [(0, .ref (q 0)), (2, .int c2), (3, .int c3), (4, .int x38)]) [0, 1, 2, 3] rfl ?_
    exact ih32 S37 x38
set_option maxRecDepth 100000 in
theorem v_X12_text_76 {S0 : MS} {k33 : MS → Option (Int32 × MS)} (hk34 : ∀ (S39 : MS), (fI [3, 5, 6, 7, 8] [0, 1, 2] S0) S39 → jf (fI [3, 5, 6, 7, 8] [0, 1, 2] S0) Prod.snd (k33 S39)) : ∀ (n : Nat) (S30 : MS) (x29 : Int32), (fI [3, 5, 6, 7, 8] [0, 1, 2] S0) S30 → jf (fI [3, 5, 6, 7, 8] [0, 1, 2] S0) Prod.snd (L_X12_text_76 k33 n S30 x29) := by
  refine f_lo2 (I := (fI [3, 5, 6, 7, 8] [0, 1, 2] S0)) (fun S30 x29 => S30) (fun rec31 ih32 S30 x29 hS30 => ?_)
  refine f_ite ?_ ?_
  · exact hk34 S30 hS30
  · refine f_chk ?_
    refine f_lt (fun x35 => ?_)
    refine f_chk ?_
    refine f_chk (f_ltS (fI_sa hS30 (by decide)) (fun S36 hS36 => ?_))
    refine f_chk (f_ltS (fI_sa hS36 (by decide)) (fun S37 hS37 => ?_))
    refine f_lt (fun x38 => ?_)
    exact ih32 S37 x38 hS37
def L_X12_text_135 (k46 : MS → Option (Int32 × MS)) : Nat → MS → Int32 → Option (Int32 × MS) := lo2 fun rec44 S43 x42 =>
  (if 1177 ≤ x42 then
  k46 S43
 else
  chk x42 1177 (
  chk x42 1177 (lt (sa S43 0 (upd (S43.2 0) x42.toNatClampNeg (S43.2 2 x42.toNatClampNeg))) fun S48 =>
  lt (x42 + 1) fun x49 =>
  rec44 S48 x49)))
set_option maxRecDepth 100000 in
set_option maxHeartbeats 4000000 in
theorem l_X12_text_135 {X : KX} {g : KG} {q : Nat → Nat} {res : Int32 × MS} (C : kC X g cX12_text "MarkChainsModel" rm_X12_text 6) (hR : ∀ (pc : Nat) (lv : List (Nat × Value)), decode cX12_text pc = .ok (.ireturn, 1) → jW X g (mw g q res.2) 0 0 pc lv [.int res.1]) (c3 : Int32) (k46 : MS → Option (Int32 × MS)) (hk47 : ∀ (S50 : MS), jJ X g res (mw g q S50) 0 0 163 [(3, .int c3)] [] (k46 S50)) : ∀ (n : Nat) (S43 : MS) (x42 : Int32), jJ X g res (mw g q S43) 0 0 135 [(0, .ref (q 0)), (3, .int c3), (4, .int x42)] [] (L_X12_text_135 k46 n S43 x42) := by
  refine r_lo2 (fun S43 x42 => mw g q S43) (fun S43 x42 => [(0, .ref (q 0)), (3, .int c3), (4, .int x42)]) (fun rec44 ih45 S43 x42 => ?_)
  refine r_iload (pc := 135) C dX12_text_135 2 rfl ?_
  refine r_sipush (pc := 137) C dX12_text_137 (v := 1177) (by decide) ?_
  refine r_icmp_ge 163 (pc := 140) C dX12_text_140 (by decide) ?_ ?_
  · refine r_sub (lv' := [(3, .int c3)]) [1] rfl ?_
    exact hk47 S43
  · refine r_aload_n (pc := 143) C dX12_text_143 0 rfl ?_
    refine mg_all (pc := 144) C dX12_text_144 ?_
    refine r_iload (pc := 147) C dX12_text_147 2 rfl ?_
    refine r_aload_n (pc := 149) C dX12_text_149 0 rfl ?_
    refine mg_ahead (pc := 150) C dX12_text_150 ?_
    refine r_iload (pc := 153) C dX12_text_153 2 rfl ?_
    refine ml_ahead (pc := 155) C dX12_text_155 ?_
    refine ms_all (pc := 156) C dX12_text_156 (fun S48 => ?_)
    refine r_iinc (pc := 157) C dX12_text_157 (v := 1) (lv' := fun x49 => [(0, .ref (q 0)), (3, .int c3), (4, .int x49)]) 2 rfl (by decide) (by decide) [1, 2, 0] (fun _ => rfl) (fun x49 => ?_)
    refine r_goto 135 (pc := 160) C dX12_text_160 (by decide) ?_
    exact ih45 S48 x49
set_option maxRecDepth 100000 in
theorem v_X12_text_135 {S0 : MS} {k46 : MS → Option (Int32 × MS)} (hk47 : ∀ (S50 : MS), (fI [3, 5, 6, 7, 8] [0, 1, 2] S0) S50 → jf (fI [3, 5, 6, 7, 8] [0, 1, 2] S0) Prod.snd (k46 S50)) : ∀ (n : Nat) (S43 : MS) (x42 : Int32), (fI [3, 5, 6, 7, 8] [0, 1, 2] S0) S43 → jf (fI [3, 5, 6, 7, 8] [0, 1, 2] S0) Prod.snd (L_X12_text_135 k46 n S43 x42) := by
  refine f_lo2 (I := (fI [3, 5, 6, 7, 8] [0, 1, 2] S0)) (fun S43 x42 => S43) (fun rec44 ih45 S43 x42 hS43 => ?_)
  refine f_ite ?_ ?_
  · exact hk47 S43 hS43
  · refine f_chk ?_
    refine f_chk (f_ltS (fI_sa hS43 (by decide)) (fun S48 hS48 => ?_))
    refine f_lt (fun x49 => ?_)
    exact ih45 S48 x49 hS48
def f_X12_text (S : MS) : Option (Int32 × MS) :=
  L_X12_text_2 (fun S10 =>
  bp (f_X12_countItems S10) (fun x11 =>
  bp (f_X12_beginText S10) (fun S12 =>
  L_X12_text_38 (fun S24 x25 =>
  lt (si S24 5 0) fun S26 =>
  bp (f_X12_countItems S26) (fun x27 =>
  lt (x27 - x11) fun x28 =>
  L_X12_text_76 (fun S40 =>
  (if x25 = 0 then
  some ((-1), S40)
 else
  bp (f_X12_deed S40) (fun S41 =>
  L_X12_text_135 (fun S51 =>
  some (x28, S51)) FU S41 0))) FU S26 0)) FU S12 1))) FU S 0
set_option maxRecDepth 100000 in
set_option maxHeartbeats 4000000 in
theorem c_X12_text {g : KG} {q : Nat → Nat} {S : MS}  {r : Int32} {S' : MS} (h : f_X12_text S = some (r, S')) : ∀ l, kM l yX12_text cX12_text 6 (some .int) rm_X12_text g [.ref (q 0)] (mw g q S) (mw g q S') (some (.int r)) 0 0 := by
  refine k_open_i (own := "MarkChainsModel") (by decide) rfl (Nat.le_of_ble_eq_true rfl) (fun X C hR => ?_)
  refine (?_ : jJ X g ((r, S') : Int32 × MS) (mw g q S) 0 0 0 [(0, .ref (q 0))] [] (f_X12_text S)) h
  unfold f_X12_text
  refine r_iconst (pc := 0) C dX12_text_0 (v := 0) (by decide) ?_
  refine r_istore_n (pc := 1) C dX12_text_1 (lv' := [(0, .ref (q 0)), (1, .int 0)]) (by decide) [1, 0] rfl ?_
  refine l_X12_text_2 C hR _ (fun S10 => ?_) FU S 0
  refine r_aload_n (pc := 27) C dX12_text_27 0 rfl ?_
  refine r_cVpi (As := []) (st := []) (pc := 28) C (fun _ h => c_X12_countItems h) kY_X12_countItems kw_6_136 kw_0_38 kw_6_134 rfl ⟨Nat.le_of_ble_eq_true rfl, Nat.le_of_ble_eq_true rfl⟩ rfl rfl ⟨Nat.zero_le _, Nat.zero_le _⟩ 0 rfl rfl rfl (Nat.le_of_ble_eq_true rfl) dX12_text_28 (fun x11 => ?_)
  refine r_istore_n (pc := 31) C dX12_text_31 (lv' := [(0, .ref (q 0)), (1, .int x11)]) (by decide) [1, 0] rfl ?_
  refine r_aload_n (pc := 32) C dX12_text_32 0 rfl ?_
  refine r_cVwv (As := []) (st := []) (wf := mw g q) (pc := 33) C (fun _ h => c_X12_beginText h) kY_X12_beginText kw_6_140 kw_0_39 kw_6_138 rfl ⟨Nat.le_of_ble_eq_true rfl, Nat.le_of_ble_eq_true rfl⟩ rfl rfl ⟨Nat.zero_le _, Nat.zero_le _⟩ 0 rfl rfl rfl (Nat.le_of_ble_eq_true rfl) dX12_text_33 (fun S12 => ?_)
  refine r_iconst (pc := 36) C dX12_text_36 (v := 1) (by decide) ?_
  refine r_istore_n (pc := 37) C dX12_text_37 (lv' := [(0, .ref (q 0)), (1, .int x11), (2, .int 1)]) (by decide) [1, 2, 0] rfl ?_
  refine l_X12_text_38 C hR x11 _ (fun S24 x25 => ?_) FU S12 1
  refine r_aload_n (pc := 61) C dX12_text_61 0 rfl ?_
  refine r_iconst (pc := 62) C dX12_text_62 (v := 0) (by decide) ?_
  refine mp_taped (pc := 63) C dX12_text_63 (fun S26 => ?_)
  refine r_aload_n (pc := 66) C dX12_text_66 0 rfl ?_
  refine r_cVpi (As := []) (st := []) (pc := 67) C (fun _ h => c_X12_countItems h) kY_X12_countItems kw_6_136 kw_0_38 kw_6_134 rfl ⟨Nat.le_of_ble_eq_true rfl, Nat.le_of_ble_eq_true rfl⟩ rfl rfl ⟨Nat.zero_le _, Nat.zero_le _⟩ 0 rfl rfl rfl (Nat.le_of_ble_eq_true rfl) dX12_text_67 (fun x27 => ?_)
  refine r_iload_n (pc := 70) C dX12_text_70 1 rfl ?_
  refine r_isub (pc := 71) C dX12_text_71 ?_
  refine r_istoreV_n (pc := 72) C dX12_text_72 (lv' := fun x28 => [(0, .ref (q 0)), (1, .int x11), (2, .int x25), (3, .int x28)]) (by decide) [1, 2, 3, 0] (fun _ => rfl) (fun x28 => ?_)
  refine r_iconst (pc := 73) C dX12_text_73 (v := 0) (by decide) ?_
  refine r_istore (pc := 74) C dX12_text_74 (lv' := [(0, .ref (q 0)), (1, .int x11), (2, .int x25), (3, .int x28), (4, .int 0)]) (by decide) [1, 2, 3, 4, 0] rfl ?_
  refine r_sub (lv' := [(0, .ref (q 0)), (2, .int x25), (3, .int x28), (4, .int 0)]) [0, 2, 3, 4] rfl ?_
  refine l_X12_text_76 C hR x25 x28 _ (fun S40 => ?_) FU S26 0
  refine r_iload_n (pc := 122) C dX12_text_122 1 rfl ?_
  refine r_if_ne 128 (pc := 123) C dX12_text_123 (by decide) ?_ ?_
  · refine r_aload_n (pc := 128) C dX12_text_128 0 rfl ?_
    refine r_cVwv (As := []) (st := []) (wf := mw g q) (pc := 129) C (fun _ h => c_X12_deed h) kY_X12_deed kw_6_191 kw_0_50 kw_6_189 rfl ⟨Nat.le_of_ble_eq_true rfl, Nat.le_of_ble_eq_true rfl⟩ rfl rfl ⟨Nat.zero_le _, Nat.zero_le _⟩ 0 rfl rfl rfl (Nat.le_of_ble_eq_true rfl) dX12_text_129 (fun S41 => ?_)
    refine r_iconst (pc := 132) C dX12_text_132 (v := 0) (by decide) ?_
    refine r_istore (pc := 133) C dX12_text_133 (lv' := [(0, .ref (q 0)), (2, .int x25), (3, .int x28), (4, .int 0)]) (by decide) [1, 2, 3, 0] rfl ?_
    refine r_sub (lv' := [(0, .ref (q 0)), (3, .int x28), (4, .int 0)]) [0, 2, 3] rfl ?_
    refine l_X12_text_135 C hR x28 _ (fun S51 => ?_) FU S41 0
    refine r_iload_n (pc := 163) C dX12_text_163 0 rfl ?_
    exact r_retWI (wf := mw g q) hR (pc := 164) dX12_text_164
  · refine r_iconst (pc := 126) C dX12_text_126 (v := (-1)) (by decide) ?_
    exact r_retWI (wf := mw g q) hR (pc := 127) dX12_text_127
set_option maxRecDepth 100000 in
theorem w_X12_text {S : MS}  {r : Int32} {S' : MS} (h : f_X12_text S = some (r, S')) : fI [3, 5, 6, 7, 8] [0, 1, 2] S S' := by
  have hS : fI [3, 5, 6, 7, 8] [0, 1, 2] S S := fI_rf
  refine (?_ : jf (fI [3, 5, 6, 7, 8] [0, 1, 2] S) Prod.snd (f_X12_text S)) _ h
  unfold f_X12_text
  refine v_X12_text_2 (fun S10 hS10 => ?_) FU S 0 hS
  refine f_bp (fun x11 => ?_)
  refine f_bpS (fun _ h => fI_tr hS10 (w_X12_beginText h) (by decide) (by decide)) (fun S12 hS12 => ?_)
  refine v_X12_text_38 (fun S24 x25 hS24 => ?_) FU S12 1 hS12
  refine f_ltS (fI_si hS24 (by decide)) (fun S26 hS26 => ?_)
  refine f_bp (fun x27 => ?_)
  refine f_lt (fun x28 => ?_)
  refine v_X12_text_76 (fun S40 hS40 => ?_) FU S26 0 hS26
  refine f_ite ?_ ?_
  · exact f_some hS40
  · refine f_bpS (fun _ h => fI_tr hS40 (w_X12_deed h) (by decide) (by decide)) (fun S41 hS41 => ?_)
    refine v_X12_text_135 (fun S51 hS51 => ?_) FU S41 0 hS41
    exact f_some hS51
abbrev rm_X12_does : Room := { frames := 0, cells := 0, slots := 0, locals := 0 }
theorem kY_X12_does : kY yX12_does cX12_does 2 none 1 := ⟨kw_1_13, kw_6_231, by decide, by decide, by decide +kernel⟩
def f_X12_does (S : MS) (a1 : Int32) : Option (MS) :=
  chk (S.1 11) 310 (lt (sa S 9 (upd (S.2 9) (S.1 11).toNatClampNeg a1)) fun S1 =>
  lt (si S1 11 ((S1.1 11) + 1)) fun S2 =>
  some S2)
set_option maxRecDepth 100000 in
set_option maxHeartbeats 4000000 in
theorem c_X12_does {g : KG} {q : Nat → Nat} {S : MS} {a1 : Int32} {S' : MS} (h : f_X12_does S a1 = some S') : ∀ l, kM l yX12_does cX12_does 2 none rm_X12_does g [.ref (q 0), .int a1] (mw g q S) (mw g q S') (none) 0 0 := by
  refine k_open_v (own := "MarkChainsModel") (by decide) rfl (Nat.le_of_ble_eq_true rfl) (fun X C hR => ?_)
  refine (?_ : jJ X g (S' : MS) (mw g q S) 0 0 0 [(0, .ref (q 0)), (1, .int a1)] [] (f_X12_does S a1)) h
  unfold f_X12_does
  refine r_aload_n (pc := 0) C dX12_does_0 0 rfl ?_
  refine mg_newCode (pc := 1) C dX12_does_1 ?_
  refine r_aload_n (pc := 4) C dX12_does_4 0 rfl ?_
  refine mg_newCodes (pc := 5) C dX12_does_5 ?_
  refine r_iload_n (pc := 8) C dX12_does_8 1 rfl ?_
  refine ms_newCode (pc := 9) C dX12_does_9 (fun S1 => ?_)
  refine r_aload_n (pc := 10) C dX12_does_10 0 rfl ?_
  refine r_dup (pc := 11) C dX12_does_11 rfl ?_
  refine mg_newCodes (pc := 12) C dX12_does_12 ?_
  refine r_iconst (pc := 15) C dX12_does_15 (v := 1) (by decide) ?_
  refine r_iadd (pc := 16) C dX12_does_16 ?_
  refine mp_newCodes (pc := 17) C dX12_does_17 (fun S2 => ?_)
  exact r_retWV (wf := mw g q) hR (pc := 20) dX12_does_20
set_option maxRecDepth 100000 in
theorem w_X12_does {S : MS} {a1 : Int32} {S' : MS} (h : f_X12_does S a1 = some S') : fI [11] [9] S S' := by
  have hS : fI [11] [9] S S := fI_rf
  refine (?_ : jf (fI [11] [9] S) id (f_X12_does S a1)) _ h
  unfold f_X12_does
  refine f_chk (f_ltS (fI_sa hS (by decide)) (fun S1 hS1 => ?_))
  refine f_ltS (fI_si hS1 (by decide)) (fun S2 hS2 => ?_)
  exact f_some hS2
abbrev rm_X12_nameOf : Room := { frames := 0, cells := 0, slots := 0, locals := 0 }
theorem kY_X12_nameOf : kY yX12_nameOf cX12_nameOf 1 (some .int) 1 := ⟨kw_1_13, kw_6_227, by decide, by decide, by decide +kernel⟩
def f_X12_nameOf (a0 : Int32) : Option (Int32) :=
  jn0 ((if a0 < 120 then
  some (-1)
 else
  (if 122 < a0 then
  some (-1)
 else
  some ((10 + a0) - 120)))) (fun k1 =>
  (if a0 = 98 then
  some 9
 else
  (if a0 = 100 then
  some 6
 else
  (if a0 = 101 then
  some 5
 else
  (if a0 = 103 then
  some 4
 else
  (if a0 = 104 then
  some 3
 else
  (if a0 = 108 then
  some 8
 else
  (if a0 = 109 then
  some 7
 else
  (if a0 = 115 then
  some 2
 else
  (if a0 = 118 then
  some 0
 else
  (if a0 = 119 then
  some 1
 else
  k1)))))))))))
set_option maxRecDepth 100000 in
set_option maxHeartbeats 4000000 in
theorem c_X12_nameOf {g : KG} {ws : va_W} {a0 : Int32} {r : Int32} (h : f_X12_nameOf a0 = some r) : ∀ l, kM l yX12_nameOf cX12_nameOf 1 (some .int) rm_X12_nameOf g [.int a0] (ws) (ws) (some (.int r)) 0 0 := by
  refine k_open_i (own := "MarkChainsModel") (by decide) rfl (Nat.le_of_ble_eq_true rfl) (fun X C hR => ?_)
  refine (?_ : jJ X g (r : Int32) (ws) 0 0 0 [(0, .int a0)] [] (f_X12_nameOf a0)) h
  unfold f_X12_nameOf
  refine r_iload_n (pc := 0) C dX12_nameOf_0 0 rfl ?_
  refine r_jn0 128 (ws) ([(0, .int a0)]) ([]) ?_ (fun k1 hk2 => ?_)
  · refine r_iload_n (pc := 128) C dX12_nameOf_128 0 rfl ?_
    refine r_bipush (pc := 129) C dX12_nameOf_129 (v := 120) (by decide) ?_
    refine r_icmp_lt 150 (pc := 131) C dX12_nameOf_131 (by decide) ?_ ?_
    · refine r_iconst (pc := 150) C dX12_nameOf_150 (v := (-1)) (by decide) ?_
      exact r_retPI hR (pc := 151) dX12_nameOf_151
    · refine r_iload_n (pc := 134) C dX12_nameOf_134 0 rfl ?_
      refine r_bipush (pc := 135) C dX12_nameOf_135 (v := 122) (by decide) ?_
      refine r_icmp_gt 150 (pc := 137) C dX12_nameOf_137 (by decide) ?_ ?_
      · refine r_iconst (pc := 150) C dX12_nameOf_150 (v := (-1)) (by decide) ?_
        exact r_retPI hR (pc := 151) dX12_nameOf_151
      · refine r_bipush (pc := 140) C dX12_nameOf_140 (v := 10) (by decide) ?_
        refine r_iload_n (pc := 142) C dX12_nameOf_142 0 rfl ?_
        refine r_iadd (pc := 143) C dX12_nameOf_143 ?_
        refine r_bipush (pc := 144) C dX12_nameOf_144 (v := 120) (by decide) ?_
        refine r_isub (pc := 146) C dX12_nameOf_146 ?_
        refine r_goto 151 (pc := 147) C dX12_nameOf_147 (by decide) ?_
        exact r_retPI hR (pc := 151) dX12_nameOf_151
  · refine r_case (fun h1_0 => ?_) (fun h1_0 => ?_)
    · refine r_tabIn (off := 124) 125 (pc := 1) C dX12_nameOf_1 h1_0 (by decide) (by decide) (by decide) (by decide) ?_
      refine r_bipush (pc := 125) C dX12_nameOf_125 (v := 9) (by decide) ?_
      exact r_retPI hR (pc := 127) dX12_nameOf_127
    · refine r_case (fun h1_1 => ?_) (fun h1_1 => ?_)
      · refine r_tabIn (off := 115) 116 (pc := 1) C dX12_nameOf_1 h1_1 (by decide) (by decide) (by decide) (by decide) ?_
        refine r_bipush (pc := 116) C dX12_nameOf_116 (v := 6) (by decide) ?_
        exact r_retPI hR (pc := 118) dX12_nameOf_118
      · refine r_case (fun h1_2 => ?_) (fun h1_2 => ?_)
        · refine r_tabIn (off := 113) 114 (pc := 1) C dX12_nameOf_1 h1_2 (by decide) (by decide) (by decide) (by decide) ?_
          refine r_iconst (pc := 114) C dX12_nameOf_114 (v := 5) (by decide) ?_
          exact r_retPI hR (pc := 115) dX12_nameOf_115
        · refine r_case (fun h1_3 => ?_) (fun h1_3 => ?_)
          · refine r_tabIn (off := 111) 112 (pc := 1) C dX12_nameOf_1 h1_3 (by decide) (by decide) (by decide) (by decide) ?_
            refine r_iconst (pc := 112) C dX12_nameOf_112 (v := 4) (by decide) ?_
            exact r_retPI hR (pc := 113) dX12_nameOf_113
          · refine r_case (fun h1_4 => ?_) (fun h1_4 => ?_)
            · refine r_tabIn (off := 109) 110 (pc := 1) C dX12_nameOf_1 h1_4 (by decide) (by decide) (by decide) (by decide) ?_
              refine r_iconst (pc := 110) C dX12_nameOf_110 (v := 3) (by decide) ?_
              exact r_retPI hR (pc := 111) dX12_nameOf_111
            · refine r_case (fun h1_5 => ?_) (fun h1_5 => ?_)
              · refine r_tabIn (off := 121) 122 (pc := 1) C dX12_nameOf_1 h1_5 (by decide) (by decide) (by decide) (by decide) ?_
                refine r_bipush (pc := 122) C dX12_nameOf_122 (v := 8) (by decide) ?_
                exact r_retPI hR (pc := 124) dX12_nameOf_124
              · refine r_case (fun h1_6 => ?_) (fun h1_6 => ?_)
                · refine r_tabIn (off := 118) 119 (pc := 1) C dX12_nameOf_1 h1_6 (by decide) (by decide) (by decide) (by decide) ?_
                  refine r_bipush (pc := 119) C dX12_nameOf_119 (v := 7) (by decide) ?_
                  exact r_retPI hR (pc := 121) dX12_nameOf_121
                · refine r_case (fun h1_7 => ?_) (fun h1_7 => ?_)
                  · refine r_tabIn (off := 107) 108 (pc := 1) C dX12_nameOf_1 h1_7 (by decide) (by decide) (by decide) (by decide) ?_
                    refine r_iconst (pc := 108) C dX12_nameOf_108 (v := 2) (by decide) ?_
                    exact r_retPI hR (pc := 109) dX12_nameOf_109
                  · refine r_case (fun h1_8 => ?_) (fun h1_8 => ?_)
                    · refine r_tabIn (off := 103) 104 (pc := 1) C dX12_nameOf_1 h1_8 (by decide) (by decide) (by decide) (by decide) ?_
                      refine r_iconst (pc := 104) C dX12_nameOf_104 (v := 0) (by decide) ?_
                      exact r_retPI hR (pc := 105) dX12_nameOf_105
                    · refine r_case (fun h1_9 => ?_) (fun h1_9 => ?_)
                      · refine r_tabIn (off := 105) 106 (pc := 1) C dX12_nameOf_1 h1_9 (by decide) (by decide) (by decide) (by decide) ?_
                        refine r_iconst (pc := 106) C dX12_nameOf_106 (v := 1) (by decide) ?_
                        exact r_retPI hR (pc := 107) dX12_nameOf_107
                      · refine r_tabDef 128 (pc := 1) C dX12_nameOf_1 (by decide) (fun j hj => ?_) (by decide) ?_
                        · match j, hj with
                          | 0, _ => exact Or.inr (lv_neT h1_0 (by decide))
                          | 1, _ => exact Or.inl rfl
                          | 2, _ => exact Or.inr (lv_neT h1_1 (by decide))
                          | 3, _ => exact Or.inr (lv_neT h1_2 (by decide))
                          | 4, _ => exact Or.inl rfl
                          | 5, _ => exact Or.inr (lv_neT h1_3 (by decide))
                          | 6, _ => exact Or.inr (lv_neT h1_4 (by decide))
                          | 7, _ => exact Or.inl rfl
                          | 8, _ => exact Or.inl rfl
                          | 9, _ => exact Or.inl rfl
                          | 10, _ => exact Or.inr (lv_neT h1_5 (by decide))
                          | 11, _ => exact Or.inr (lv_neT h1_6 (by decide))
                          | 12, _ => exact Or.inl rfl
                          | 13, _ => exact Or.inl rfl
                          | 14, _ => exact Or.inl rfl
                          | 15, _ => exact Or.inl rfl
                          | 16, _ => exact Or.inl rfl
                          | 17, _ => exact Or.inr (lv_neT h1_7 (by decide))
                          | 18, _ => exact Or.inl rfl
                          | 19, _ => exact Or.inl rfl
                          | 20, _ => exact Or.inr (lv_neT h1_8 (by decide))
                          | 21, _ => exact Or.inr (lv_neT h1_9 (by decide))
                          | j + 22, hj => exact absurd hj (by simp)
                        · exact hk2
abbrev rm_X12_readThing : Room := { frames := 2, cells := 0, slots := 0, locals := 42 }
theorem kY_X12_readThing : kY yX12_readThing cX12_readThing 2 (some .boolean) 0 := ⟨kw_1_13, kw_6_224, by decide, by decide, by decide +kernel⟩
def f_X12_readThing (S : MS) : Option (Bool × MS) :=
  bp (f_X12_here S) (fun x1 =>
  bp (f_X12_isFigure x1) (fun x2 =>
  jn0 (bw (f_X12_fails S (S.1 6)) (fun x3 S4 =>
  some (x3, S4))) (fun k5 =>
  jn0 ((if (S.1 12) = 60 then
  k5
 else
  lt (si S 12 ((S.1 12) + 1)) fun S7 =>
  bp (f_X12_isFigure x1) (fun x8 =>
  (if x8 = true then
  bw (f_X12_readDigits S7) (fun x12 S13 =>
  (if x12 = true then
  bp (f_X12_does S13 (S13.1 8)) (fun S14 =>
  some (true, S14))
 else
  some (false, S13)))
 else
  bp (f_X12_nameOf x1) (fun x9 =>
  bp (f_X12_does S7 (10000000 + x9)) (fun S10 =>
  lt (si S10 6 ((S10.1 6) + 1)) fun S11 =>
  some (true, S11))))))) (fun k15 =>
  (if x2 = true then
  k15
 else
  bp (f_X12_nameOf x1) (fun x17 =>
  (if x17 = (-1) then
  k5
 else
  k15)))))))
set_option maxRecDepth 100000 in
set_option maxHeartbeats 4000000 in
theorem c_X12_readThing {g : KG} {q : Nat → Nat} {S : MS}  {r : Bool} {S' : MS} (h : f_X12_readThing S = some (r, S')) : ∀ l, kM l yX12_readThing cX12_readThing 2 (some .boolean) rm_X12_readThing g [.ref (q 0)] (mw g q S) (mw g q S') (some (.int (b2 r))) 0 0 := by
  refine k_open_z (own := "MarkChainsModel") (by decide) rfl (Nat.le_of_ble_eq_true rfl) (fun X C hR => ?_)
  refine (?_ : jJ X g ((r, S') : Bool × MS) (mw g q S) 0 0 0 [(0, .ref (q 0))] [] (f_X12_readThing S)) h
  unfold f_X12_readThing
  refine r_aload_n (pc := 0) C dX12_readThing_0 0 rfl ?_
  refine r_cVpi (As := []) (st := []) (pc := 1) C (fun _ h => c_X12_here h) kY_X12_here kw_6_148 kw_0_41 kw_6_146 rfl ⟨Nat.le_of_ble_eq_true rfl, Nat.le_of_ble_eq_true rfl⟩ rfl rfl ⟨Nat.zero_le _, Nat.zero_le _⟩ 0 rfl rfl rfl (Nat.le_of_ble_eq_true rfl) dX12_readThing_1 (fun x1 => ?_)
  refine r_istore_n (pc := 4) C dX12_readThing_4 (lv' := [(0, .ref (q 0)), (1, .int x1)]) (by decide) [1, 0] rfl ?_
  refine r_iload_n (pc := 5) C dX12_readThing_5 1 rfl ?_
  refine r_cSpz (As := [.int x1]) (st := []) (pc := 6) C (fun _ h => c_X12_isFigure h) kY_X12_isFigure kw_6_167 kw_6_166 rfl ⟨Nat.le_of_ble_eq_true rfl, Nat.le_of_ble_eq_true rfl⟩ rfl rfl ⟨Nat.zero_le _, Nat.zero_le _⟩ rfl (Nat.le_of_ble_eq_true rfl) dX12_readThing_6 (fun x2 => ?_)
  refine r_jn0 29 (mw g q S) ([(0, .ref (q 0))]) ([]) ?_ (fun k5 hk6 => ?_)
  · refine r_aload_n (pc := 29) C dX12_readThing_29 0 rfl ?_
    refine r_aload_n (pc := 30) C dX12_readThing_30 0 rfl ?_
    refine mg_at (pc := 31) C dX12_readThing_31 ?_
    refine r_cVwz (As := [.int (S.1 6)]) (st := []) (wf := mw g q) (pc := 34) C (fun _ _ h => c_X12_fails h) kY_X12_fails kw_6_156 kw_0_43 kw_6_154 rfl ⟨Nat.le_of_ble_eq_true rfl, Nat.le_of_ble_eq_true rfl⟩ rfl rfl ⟨Nat.zero_le _, Nat.zero_le _⟩ 0 rfl rfl rfl (Nat.le_of_ble_eq_true rfl) dX12_readThing_34 (fun x3 S4 => ?_)
    exact r_retWZ hR rfl (pc := 37) dX12_readThing_37
  · refine r_jn0 20 (mw g q S) ([(0, .ref (q 0)), (1, .int x1)]) ([]) ?_ (fun k15 hk16 => ?_)
    · refine r_aload_n (pc := 20) C dX12_readThing_20 0 rfl ?_
      refine mg_newThings (pc := 21) C dX12_readThing_21 ?_
      refine r_bipush (pc := 24) C dX12_readThing_24 (v := 60) (by decide) ?_
      refine r_icmp_ne 38 (pc := 26) C dX12_readThing_26 (by decide) ?_ ?_
      · refine r_aload_n (pc := 38) C dX12_readThing_38 0 rfl ?_
        refine r_dup (pc := 39) C dX12_readThing_39 rfl ?_
        refine mg_newThings (pc := 40) C dX12_readThing_40 ?_
        refine r_iconst (pc := 43) C dX12_readThing_43 (v := 1) (by decide) ?_
        refine r_iadd (pc := 44) C dX12_readThing_44 ?_
        refine mp_newThings (pc := 45) C dX12_readThing_45 (fun S7 => ?_)
        refine r_iload_n (pc := 48) C dX12_readThing_48 1 rfl ?_
        refine r_cSpz (As := [.int x1]) (st := []) (pc := 49) C (fun _ h => c_X12_isFigure h) kY_X12_isFigure kw_6_167 kw_6_166 rfl ⟨Nat.le_of_ble_eq_true rfl, Nat.le_of_ble_eq_true rfl⟩ rfl rfl ⟨Nat.zero_le _, Nat.zero_le _⟩ rfl (Nat.le_of_ble_eq_true rfl) dX12_readThing_49 (fun x8 => ?_)
        refine r_ifb_eq 74 (pc := 52) C dX12_readThing_52 (by decide) ?_ ?_
        · refine r_aload_n (pc := 74) C dX12_readThing_74 0 rfl ?_
          refine r_ldc (pc := 75) C dX12_readThing_75 kw_6_232 ?_
          refine r_iload_n (pc := 77) C dX12_readThing_77 1 rfl ?_
          refine r_cSpi (As := [.int x1]) (st := [.int 10000000, .ref (q 0)]) (pc := 78) C (fun _ h => c_X12_nameOf h) kY_X12_nameOf kw_6_226 kw_6_225 rfl ⟨Nat.le_of_ble_eq_true rfl, Nat.le_of_ble_eq_true rfl⟩ rfl rfl ⟨Nat.zero_le _, Nat.zero_le _⟩ rfl (Nat.le_of_ble_eq_true rfl) dX12_readThing_78 (fun x9 => ?_)
          refine r_iadd (pc := 81) C dX12_readThing_81 ?_
          refine r_cVwv (As := [.int (10000000 + x9)]) (st := []) (wf := mw g q) (pc := 82) C (fun _ h => c_X12_does h) kY_X12_does kw_6_230 kw_0_58 kw_6_228 rfl ⟨Nat.le_of_ble_eq_true rfl, Nat.le_of_ble_eq_true rfl⟩ rfl rfl ⟨Nat.zero_le _, Nat.zero_le _⟩ 0 rfl rfl rfl (Nat.le_of_ble_eq_true rfl) dX12_readThing_82 (fun S10 => ?_)
          refine r_aload_n (pc := 85) C dX12_readThing_85 0 rfl ?_
          refine r_dup (pc := 86) C dX12_readThing_86 rfl ?_
          refine mg_at (pc := 87) C dX12_readThing_87 ?_
          refine r_iconst (pc := 90) C dX12_readThing_90 (v := 1) (by decide) ?_
          refine r_iadd (pc := 91) C dX12_readThing_91 ?_
          refine mp_at (pc := 92) C dX12_readThing_92 (fun S11 => ?_)
          refine r_iconst (pc := 95) C dX12_readThing_95 (v := 1) (by decide) ?_
          exact r_retWZ hR rfl (pc := 96) dX12_readThing_96
        · refine r_aload_n (pc := 55) C dX12_readThing_55 0 rfl ?_
          refine r_cVwz (As := []) (st := []) (wf := mw g q) (pc := 56) C (fun _ _ h => c_X12_readDigits h) kY_X12_readDigits kw_6_164 kw_0_45 kw_6_162 rfl ⟨Nat.le_of_ble_eq_true rfl, Nat.le_of_ble_eq_true rfl⟩ rfl rfl ⟨Nat.zero_le _, Nat.zero_le _⟩ 0 rfl rfl rfl (Nat.le_of_ble_eq_true rfl) dX12_readThing_56 (fun x12 S13 => ?_)
          refine r_ifb_ne 64 (pc := 59) C dX12_readThing_59 (by decide) ?_ ?_
          · refine r_aload_n (pc := 64) C dX12_readThing_64 0 rfl ?_
            refine r_aload_n (pc := 65) C dX12_readThing_65 0 rfl ?_
            refine mg_number (pc := 66) C dX12_readThing_66 ?_
            refine r_cVwv (As := [.int (S13.1 8)]) (st := []) (wf := mw g q) (pc := 69) C (fun _ h => c_X12_does h) kY_X12_does kw_6_230 kw_0_58 kw_6_228 rfl ⟨Nat.le_of_ble_eq_true rfl, Nat.le_of_ble_eq_true rfl⟩ rfl rfl ⟨Nat.zero_le _, Nat.zero_le _⟩ 0 rfl rfl rfl (Nat.le_of_ble_eq_true rfl) dX12_readThing_69 (fun S14 => ?_)
            refine r_iconst (pc := 72) C dX12_readThing_72 (v := 1) (by decide) ?_
            exact r_retWZ hR rfl (pc := 73) dX12_readThing_73
          · refine r_iconst (pc := 62) C dX12_readThing_62 (v := 0) (by decide) ?_
            exact r_retWZ hR rfl (pc := 63) dX12_readThing_63
      · refine r_sub (lv' := [(0, .ref (q 0))]) [0] rfl ?_
        exact hk6
    · refine r_ifb_ne 20 (pc := 9) C dX12_readThing_9 (by decide) ?_ ?_
      · exact hk16
      · refine r_iload_n (pc := 12) C dX12_readThing_12 1 rfl ?_
        refine r_cSpi (As := [.int x1]) (st := []) (pc := 13) C (fun _ h => c_X12_nameOf h) kY_X12_nameOf kw_6_226 kw_6_225 rfl ⟨Nat.le_of_ble_eq_true rfl, Nat.le_of_ble_eq_true rfl⟩ rfl rfl ⟨Nat.zero_le _, Nat.zero_le _⟩ rfl (Nat.le_of_ble_eq_true rfl) dX12_readThing_13 (fun x17 => ?_)
        refine r_iconst (pc := 16) C dX12_readThing_16 (v := (-1)) (by decide) ?_
        refine r_icmp_eq 29 (pc := 17) C dX12_readThing_17 (by decide) ?_ ?_
        · refine r_sub (lv' := [(0, .ref (q 0))]) [0] rfl ?_
          exact hk6
        · exact hk16
set_option maxRecDepth 100000 in
theorem w_X12_readThing {S : MS}  {r : Bool} {S' : MS} (h : f_X12_readThing S = some (r, S')) : fI [6, 7, 8, 11, 12] [9] S S' := by
  have hS : fI [6, 7, 8, 11, 12] [9] S S := fI_rf
  refine (?_ : jf (fI [6, 7, 8, 11, 12] [9] S) Prod.snd (f_X12_readThing S)) _ h
  unfold f_X12_readThing
  refine f_bp (fun x1 => ?_)
  refine f_bp (fun x2 => ?_)
  refine f_jm0 hS (fun  hS => ?_) (fun k5 hk6 => ?_)
  · refine f_bwS (fun _ _ h => fI_tr hS (w_X12_fails h) (by decide) (by decide)) (fun x3 S4 hS4 => ?_)
    exact f_some hS4
  · refine f_jm0 hS (fun  hS => ?_) (fun k15 hk16 => ?_)
    · refine f_ite ?_ ?_
      · exact hk6 hS
      · refine f_ltS (fI_si hS (by decide)) (fun S7 hS7 => ?_)
        refine f_bp (fun x8 => ?_)
        refine f_ite ?_ ?_
        · refine f_bwS (fun _ _ h => fI_tr hS7 (w_X12_readDigits h) (by decide) (by decide)) (fun x12 S13 hS13 => ?_)
          refine f_ite ?_ ?_
          · refine f_bpS (fun _ h => fI_tr hS13 (w_X12_does h) (by decide) (by decide)) (fun S14 hS14 => ?_)
            exact f_some hS14
          · exact f_some hS13
        · refine f_bp (fun x9 => ?_)
          refine f_bpS (fun _ h => fI_tr hS7 (w_X12_does h) (by decide) (by decide)) (fun S10 hS10 => ?_)
          refine f_ltS (fI_si hS10 (by decide)) (fun S11 hS11 => ?_)
          exact f_some hS11
    · refine f_ite ?_ ?_
      · exact hk16 hS
      · refine f_bp (fun x17 => ?_)
        refine f_ite ?_ ?_
        · exact hk6 hS
        · exact hk16 hS
abbrev rm_X12_readProduct : Room := { frames := 3, cells := 0, slots := 0, locals := 63 }
theorem kY_X12_readProduct : kY yX12_readProduct cX12_readProduct 2 (some .boolean) 0 := ⟨kw_1_13, kw_6_220, by decide, by decide, by decide +kernel⟩
def L_X12_readProduct_9 (k6 : MS → Option (Bool × MS)) : Nat → MS → Option (Bool × MS) := lo1 fun rec4 S3 =>
  bp (f_X12_here S3) (fun x8 =>
  jn0 (bp (f_X12_here S3) (fun x9 =>
  lt (si S3 6 ((S3.1 6) + 1)) fun S10 =>
  bw (f_X12_readThing S10) (fun x11 S12 =>
  (if x11 = true then
  bp (f_X12_does S12 (20000000 + x9)) (fun S13 =>
  rec4 S13)
 else
  some (false, S12))))) (fun k14 =>
  (if x8 = 42 then
  k14
 else
  bp (f_X12_here S3) (fun x16 =>
  (if x16 = 47 then
  k14
 else
  k6 S3)))))
set_option maxRecDepth 100000 in
set_option maxHeartbeats 4000000 in
theorem l_X12_readProduct_9 {X : KX} {g : KG} {q : Nat → Nat} {res : Bool × MS} (C : kC X g cX12_readProduct "MarkChainsModel" rm_X12_readProduct 2) (hR : ∀ (pc : Nat) (lv : List (Nat × Value)), decode cX12_readProduct pc = .ok (.ireturn, 1) → jW X g (mw g q res.2) 0 0 pc lv [.int (b2 res.1)]) (k6 : MS → Option (Bool × MS)) (hk7 : ∀ (S17 : MS), jJ X g res (mw g q S17) 0 0 62 [] [] (k6 S17)) : ∀ (n : Nat) (S3 : MS), jJ X g res (mw g q S3) 0 0 9 [(0, .ref (q 0))] [] (L_X12_readProduct_9 k6 n S3) := by
  refine r_lo1 (fun S3 => mw g q S3) (fun S3 => [(0, .ref (q 0))]) (fun rec4 ih5 S3 => ?_)
  refine r_aload_n (pc := 9) C dX12_readProduct_9 0 rfl ?_
  refine r_cVpi (As := []) (st := []) (pc := 10) C (fun _ h => c_X12_here h) kY_X12_here kw_6_148 kw_0_41 kw_6_146 rfl ⟨Nat.le_of_ble_eq_true rfl, Nat.le_of_ble_eq_true rfl⟩ rfl rfl ⟨Nat.zero_le _, Nat.zero_le _⟩ 0 rfl rfl rfl (Nat.le_of_ble_eq_true rfl) dX12_readProduct_10 (fun x8 => ?_)
  refine r_bipush (pc := 13) C dX12_readProduct_13 (v := 42) (by decide) ?_
  refine r_jn0 27 (mw g q S3) ([(0, .ref (q 0))]) ([]) ?_ (fun k14 hk15 => ?_)
  · refine r_aload_n (pc := 27) C dX12_readProduct_27 0 rfl ?_
    refine r_cVpi (As := []) (st := []) (pc := 28) C (fun _ h => c_X12_here h) kY_X12_here kw_6_148 kw_0_41 kw_6_146 rfl ⟨Nat.le_of_ble_eq_true rfl, Nat.le_of_ble_eq_true rfl⟩ rfl rfl ⟨Nat.zero_le _, Nat.zero_le _⟩ 0 rfl rfl rfl (Nat.le_of_ble_eq_true rfl) dX12_readProduct_28 (fun x9 => ?_)
    refine r_istore_n (pc := 31) C dX12_readProduct_31 (lv' := [(0, .ref (q 0)), (1, .int x9)]) (by decide) [1, 0] rfl ?_
    refine r_aload_n (pc := 32) C dX12_readProduct_32 0 rfl ?_
    refine r_dup (pc := 33) C dX12_readProduct_33 rfl ?_
    refine mg_at (pc := 34) C dX12_readProduct_34 ?_
    refine r_iconst (pc := 37) C dX12_readProduct_37 (v := 1) (by decide) ?_
    refine r_iadd (pc := 38) C dX12_readProduct_38 ?_
    refine mp_at (pc := 39) C dX12_readProduct_39 (fun S10 => ?_)
    refine r_aload_n (pc := 42) C dX12_readProduct_42 0 rfl ?_
    refine r_cVwz (As := []) (st := []) (wf := mw g q) (pc := 43) C (fun _ _ h => c_X12_readThing h) kY_X12_readThing kw_6_223 kw_0_57 kw_6_221 rfl ⟨Nat.le_of_ble_eq_true rfl, Nat.le_of_ble_eq_true rfl⟩ rfl rfl ⟨Nat.zero_le _, Nat.zero_le _⟩ 0 rfl rfl rfl (Nat.le_of_ble_eq_true rfl) dX12_readProduct_43 (fun x11 S12 => ?_)
    refine r_ifb_ne 51 (pc := 46) C dX12_readProduct_46 (by decide) ?_ ?_
    · refine r_aload_n (pc := 51) C dX12_readProduct_51 0 rfl ?_
      refine r_ldc (pc := 52) C dX12_readProduct_52 kw_6_233 ?_
      refine r_iload_n (pc := 54) C dX12_readProduct_54 1 rfl ?_
      refine r_iadd (pc := 55) C dX12_readProduct_55 ?_
      refine r_cVwv (As := [.int (20000000 + x9)]) (st := []) (wf := mw g q) (pc := 56) C (fun _ h => c_X12_does h) kY_X12_does kw_6_230 kw_0_58 kw_6_228 rfl ⟨Nat.le_of_ble_eq_true rfl, Nat.le_of_ble_eq_true rfl⟩ rfl rfl ⟨Nat.zero_le _, Nat.zero_le _⟩ 0 rfl rfl rfl (Nat.le_of_ble_eq_true rfl) dX12_readProduct_56 (fun S13 => ?_)
      refine r_goto 9 (pc := 59) C dX12_readProduct_59 (by decide) ?_
      refine r_sub (lv' := [(0, .ref (q 0))]) [0] rfl ?_
      exact ih5 S13
    · refine r_iconst (pc := 49) C dX12_readProduct_49 (v := 0) (by decide) ?_
      exact r_retWZ hR rfl (pc := 50) dX12_readProduct_50
  · refine r_icmp_eq 27 (pc := 15) C dX12_readProduct_15 (by decide) ?_ ?_
    · exact hk15
    · refine r_aload_n (pc := 18) C dX12_readProduct_18 0 rfl ?_
      refine r_cVpi (As := []) (st := []) (pc := 19) C (fun _ h => c_X12_here h) kY_X12_here kw_6_148 kw_0_41 kw_6_146 rfl ⟨Nat.le_of_ble_eq_true rfl, Nat.le_of_ble_eq_true rfl⟩ rfl rfl ⟨Nat.zero_le _, Nat.zero_le _⟩ 0 rfl rfl rfl (Nat.le_of_ble_eq_true rfl) dX12_readProduct_19 (fun x16 => ?_)
      refine r_bipush (pc := 22) C dX12_readProduct_22 (v := 47) (by decide) ?_
      refine r_icmp_ne 62 (pc := 24) C dX12_readProduct_24 (by decide) ?_ ?_
      · refine r_sub (lv' := []) [] rfl ?_
        exact hk7 S3
      · exact hk15
set_option maxRecDepth 100000 in
theorem v_X12_readProduct_9 {S0 : MS} {k6 : MS → Option (Bool × MS)} (hk7 : ∀ (S17 : MS), (fI [6, 7, 8, 11, 12] [9] S0) S17 → jf (fI [6, 7, 8, 11, 12] [9] S0) Prod.snd (k6 S17)) : ∀ (n : Nat) (S3 : MS), (fI [6, 7, 8, 11, 12] [9] S0) S3 → jf (fI [6, 7, 8, 11, 12] [9] S0) Prod.snd (L_X12_readProduct_9 k6 n S3) := by
  refine f_lo1 (I := (fI [6, 7, 8, 11, 12] [9] S0)) (fun S3 => S3) (fun rec4 ih5 S3 hS3 => ?_)
  refine f_bp (fun x8 => ?_)
  refine f_jm0 hS3 (fun  hS3 => ?_) (fun k14 hk15 => ?_)
  · refine f_bp (fun x9 => ?_)
    refine f_ltS (fI_si hS3 (by decide)) (fun S10 hS10 => ?_)
    refine f_bwS (fun _ _ h => fI_tr hS10 (w_X12_readThing h) (by decide) (by decide)) (fun x11 S12 hS12 => ?_)
    refine f_ite ?_ ?_
    · refine f_bpS (fun _ h => fI_tr hS12 (w_X12_does h) (by decide) (by decide)) (fun S13 hS13 => ?_)
      exact ih5 S13 hS13
    · exact f_some hS12
  · refine f_ite ?_ ?_
    · exact hk15 hS3
    · refine f_bp (fun x16 => ?_)
      refine f_ite ?_ ?_
      · exact hk15 hS3
      · exact hk7 S3 hS3
def f_X12_readProduct (S : MS) : Option (Bool × MS) :=
  bw (f_X12_readThing S) (fun x1 S2 =>
  (if x1 = true then
  L_X12_readProduct_9 (fun S18 =>
  some (true, S18)) FU S2
 else
  some (false, S2)))
set_option maxRecDepth 100000 in
set_option maxHeartbeats 4000000 in
theorem c_X12_readProduct {g : KG} {q : Nat → Nat} {S : MS}  {r : Bool} {S' : MS} (h : f_X12_readProduct S = some (r, S')) : ∀ l, kM l yX12_readProduct cX12_readProduct 2 (some .boolean) rm_X12_readProduct g [.ref (q 0)] (mw g q S) (mw g q S') (some (.int (b2 r))) 0 0 := by
  refine k_open_z (own := "MarkChainsModel") (by decide) rfl (Nat.le_of_ble_eq_true rfl) (fun X C hR => ?_)
  refine (?_ : jJ X g ((r, S') : Bool × MS) (mw g q S) 0 0 0 [(0, .ref (q 0))] [] (f_X12_readProduct S)) h
  unfold f_X12_readProduct
  refine r_aload_n (pc := 0) C dX12_readProduct_0 0 rfl ?_
  refine r_cVwz (As := []) (st := []) (wf := mw g q) (pc := 1) C (fun _ _ h => c_X12_readThing h) kY_X12_readThing kw_6_223 kw_0_57 kw_6_221 rfl ⟨Nat.le_of_ble_eq_true rfl, Nat.le_of_ble_eq_true rfl⟩ rfl rfl ⟨Nat.zero_le _, Nat.zero_le _⟩ 0 rfl rfl rfl (Nat.le_of_ble_eq_true rfl) dX12_readProduct_1 (fun x1 S2 => ?_)
  refine r_ifb_ne 9 (pc := 4) C dX12_readProduct_4 (by decide) ?_ ?_
  · refine l_X12_readProduct_9 C hR _ (fun S18 => ?_) FU S2
    refine r_iconst (pc := 62) C dX12_readProduct_62 (v := 1) (by decide) ?_
    exact r_retWZ hR rfl (pc := 63) dX12_readProduct_63
  · refine r_iconst (pc := 7) C dX12_readProduct_7 (v := 0) (by decide) ?_
    exact r_retWZ hR rfl (pc := 8) dX12_readProduct_8
set_option maxRecDepth 100000 in
theorem w_X12_readProduct {S : MS}  {r : Bool} {S' : MS} (h : f_X12_readProduct S = some (r, S')) : fI [6, 7, 8, 11, 12] [9] S S' := by
  have hS : fI [6, 7, 8, 11, 12] [9] S S := fI_rf
  refine (?_ : jf (fI [6, 7, 8, 11, 12] [9] S) Prod.snd (f_X12_readProduct S)) _ h
  unfold f_X12_readProduct
  refine f_bwS (fun _ _ h => fI_tr hS (w_X12_readThing h) (by decide) (by decide)) (fun x1 S2 hS2 => ?_)
  refine f_ite ?_ ?_
  · refine v_X12_readProduct_9 (fun S18 hS18 => ?_) FU S2 hS2
    exact f_some hS18
  · exact f_some hS2
abbrev rm_X12_readSum : Room := { frames := 4, cells := 0, slots := 0, locals := 84 }
theorem kY_X12_readSum : kY yX12_readSum cX12_readSum 2 (some .boolean) 0 := ⟨kw_1_13, kw_6_216, by decide, by decide, by decide +kernel⟩
def L_X12_readSum_9 (k6 : MS → Option (Bool × MS)) : Nat → MS → Option (Bool × MS) := lo1 fun rec4 S3 =>
  bp (f_X12_here S3) (fun x8 =>
  jn0 (bp (f_X12_here S3) (fun x9 =>
  lt (si S3 6 ((S3.1 6) + 1)) fun S10 =>
  bw (f_X12_readProduct S10) (fun x11 S12 =>
  (if x11 = true then
  bp (f_X12_does S12 (20000000 + x9)) (fun S13 =>
  rec4 S13)
 else
  some (false, S12))))) (fun k14 =>
  (if x8 = 43 then
  k14
 else
  bp (f_X12_here S3) (fun x16 =>
  (if x16 = 45 then
  k14
 else
  k6 S3)))))
set_option maxRecDepth 100000 in
set_option maxHeartbeats 4000000 in
theorem l_X12_readSum_9 {X : KX} {g : KG} {q : Nat → Nat} {res : Bool × MS} (C : kC X g cX12_readSum "MarkChainsModel" rm_X12_readSum 2) (hR : ∀ (pc : Nat) (lv : List (Nat × Value)), decode cX12_readSum pc = .ok (.ireturn, 1) → jW X g (mw g q res.2) 0 0 pc lv [.int (b2 res.1)]) (k6 : MS → Option (Bool × MS)) (hk7 : ∀ (S17 : MS), jJ X g res (mw g q S17) 0 0 62 [] [] (k6 S17)) : ∀ (n : Nat) (S3 : MS), jJ X g res (mw g q S3) 0 0 9 [(0, .ref (q 0))] [] (L_X12_readSum_9 k6 n S3) := by
  refine r_lo1 (fun S3 => mw g q S3) (fun S3 => [(0, .ref (q 0))]) (fun rec4 ih5 S3 => ?_)
  refine r_aload_n (pc := 9) C dX12_readSum_9 0 rfl ?_
  refine r_cVpi (As := []) (st := []) (pc := 10) C (fun _ h => c_X12_here h) kY_X12_here kw_6_148 kw_0_41 kw_6_146 rfl ⟨Nat.le_of_ble_eq_true rfl, Nat.le_of_ble_eq_true rfl⟩ rfl rfl ⟨Nat.zero_le _, Nat.zero_le _⟩ 0 rfl rfl rfl (Nat.le_of_ble_eq_true rfl) dX12_readSum_10 (fun x8 => ?_)
  refine r_bipush (pc := 13) C dX12_readSum_13 (v := 43) (by decide) ?_
  refine r_jn0 27 (mw g q S3) ([(0, .ref (q 0))]) ([]) ?_ (fun k14 hk15 => ?_)
  · refine r_aload_n (pc := 27) C dX12_readSum_27 0 rfl ?_
    refine r_cVpi (As := []) (st := []) (pc := 28) C (fun _ h => c_X12_here h) kY_X12_here kw_6_148 kw_0_41 kw_6_146 rfl ⟨Nat.le_of_ble_eq_true rfl, Nat.le_of_ble_eq_true rfl⟩ rfl rfl ⟨Nat.zero_le _, Nat.zero_le _⟩ 0 rfl rfl rfl (Nat.le_of_ble_eq_true rfl) dX12_readSum_28 (fun x9 => ?_)
    refine r_istore_n (pc := 31) C dX12_readSum_31 (lv' := [(0, .ref (q 0)), (1, .int x9)]) (by decide) [1, 0] rfl ?_
    refine r_aload_n (pc := 32) C dX12_readSum_32 0 rfl ?_
    refine r_dup (pc := 33) C dX12_readSum_33 rfl ?_
    refine mg_at (pc := 34) C dX12_readSum_34 ?_
    refine r_iconst (pc := 37) C dX12_readSum_37 (v := 1) (by decide) ?_
    refine r_iadd (pc := 38) C dX12_readSum_38 ?_
    refine mp_at (pc := 39) C dX12_readSum_39 (fun S10 => ?_)
    refine r_aload_n (pc := 42) C dX12_readSum_42 0 rfl ?_
    refine r_cVwz (As := []) (st := []) (wf := mw g q) (pc := 43) C (fun _ _ h => c_X12_readProduct h) kY_X12_readProduct kw_6_219 kw_0_56 kw_6_217 rfl ⟨Nat.le_of_ble_eq_true rfl, Nat.le_of_ble_eq_true rfl⟩ rfl rfl ⟨Nat.zero_le _, Nat.zero_le _⟩ 0 rfl rfl rfl (Nat.le_of_ble_eq_true rfl) dX12_readSum_43 (fun x11 S12 => ?_)
    refine r_ifb_ne 51 (pc := 46) C dX12_readSum_46 (by decide) ?_ ?_
    · refine r_aload_n (pc := 51) C dX12_readSum_51 0 rfl ?_
      refine r_ldc (pc := 52) C dX12_readSum_52 kw_6_233 ?_
      refine r_iload_n (pc := 54) C dX12_readSum_54 1 rfl ?_
      refine r_iadd (pc := 55) C dX12_readSum_55 ?_
      refine r_cVwv (As := [.int (20000000 + x9)]) (st := []) (wf := mw g q) (pc := 56) C (fun _ h => c_X12_does h) kY_X12_does kw_6_230 kw_0_58 kw_6_228 rfl ⟨Nat.le_of_ble_eq_true rfl, Nat.le_of_ble_eq_true rfl⟩ rfl rfl ⟨Nat.zero_le _, Nat.zero_le _⟩ 0 rfl rfl rfl (Nat.le_of_ble_eq_true rfl) dX12_readSum_56 (fun S13 => ?_)
      refine r_goto 9 (pc := 59) C dX12_readSum_59 (by decide) ?_
      refine r_sub (lv' := [(0, .ref (q 0))]) [0] rfl ?_
      exact ih5 S13
    · refine r_iconst (pc := 49) C dX12_readSum_49 (v := 0) (by decide) ?_
      exact r_retWZ hR rfl (pc := 50) dX12_readSum_50
  · refine r_icmp_eq 27 (pc := 15) C dX12_readSum_15 (by decide) ?_ ?_
    · exact hk15
    · refine r_aload_n (pc := 18) C dX12_readSum_18 0 rfl ?_
      refine r_cVpi (As := []) (st := []) (pc := 19) C (fun _ h => c_X12_here h) kY_X12_here kw_6_148 kw_0_41 kw_6_146 rfl ⟨Nat.le_of_ble_eq_true rfl, Nat.le_of_ble_eq_true rfl⟩ rfl rfl ⟨Nat.zero_le _, Nat.zero_le _⟩ 0 rfl rfl rfl (Nat.le_of_ble_eq_true rfl) dX12_readSum_19 (fun x16 => ?_)
      refine r_bipush (pc := 22) C dX12_readSum_22 (v := 45) (by decide) ?_
      refine r_icmp_ne 62 (pc := 24) C dX12_readSum_24 (by decide) ?_ ?_
      · refine r_sub (lv' := []) [] rfl ?_
        exact hk7 S3
      · exact hk15
set_option maxRecDepth 100000 in
theorem v_X12_readSum_9 {S0 : MS} {k6 : MS → Option (Bool × MS)} (hk7 : ∀ (S17 : MS), (fI [6, 7, 8, 11, 12] [9] S0) S17 → jf (fI [6, 7, 8, 11, 12] [9] S0) Prod.snd (k6 S17)) : ∀ (n : Nat) (S3 : MS), (fI [6, 7, 8, 11, 12] [9] S0) S3 → jf (fI [6, 7, 8, 11, 12] [9] S0) Prod.snd (L_X12_readSum_9 k6 n S3) := by
  refine f_lo1 (I := (fI [6, 7, 8, 11, 12] [9] S0)) (fun S3 => S3) (fun rec4 ih5 S3 hS3 => ?_)
  refine f_bp (fun x8 => ?_)
  refine f_jm0 hS3 (fun  hS3 => ?_) (fun k14 hk15 => ?_)
  · refine f_bp (fun x9 => ?_)
    refine f_ltS (fI_si hS3 (by decide)) (fun S10 hS10 => ?_)
    refine f_bwS (fun _ _ h => fI_tr hS10 (w_X12_readProduct h) (by decide) (by decide)) (fun x11 S12 hS12 => ?_)
    refine f_ite ?_ ?_
    · refine f_bpS (fun _ h => fI_tr hS12 (w_X12_does h) (by decide) (by decide)) (fun S13 hS13 => ?_)
      exact ih5 S13 hS13
    · exact f_some hS12
  · refine f_ite ?_ ?_
    · exact hk15 hS3
    · refine f_bp (fun x16 => ?_)
      refine f_ite ?_ ?_
      · exact hk15 hS3
      · exact hk7 S3 hS3
def f_X12_readSum (S : MS) : Option (Bool × MS) :=
  bw (f_X12_readProduct S) (fun x1 S2 =>
  (if x1 = true then
  L_X12_readSum_9 (fun S18 =>
  some (true, S18)) FU S2
 else
  some (false, S2)))
set_option maxRecDepth 100000 in
set_option maxHeartbeats 4000000 in
theorem c_X12_readSum {g : KG} {q : Nat → Nat} {S : MS}  {r : Bool} {S' : MS} (h : f_X12_readSum S = some (r, S')) : ∀ l, kM l yX12_readSum cX12_readSum 2 (some .boolean) rm_X12_readSum g [.ref (q 0)] (mw g q S) (mw g q S') (some (.int (b2 r))) 0 0 := by
  refine k_open_z (own := "MarkChainsModel") (by decide) rfl (Nat.le_of_ble_eq_true rfl) (fun X C hR => ?_)
  refine (?_ : jJ X g ((r, S') : Bool × MS) (mw g q S) 0 0 0 [(0, .ref (q 0))] [] (f_X12_readSum S)) h
  unfold f_X12_readSum
  refine r_aload_n (pc := 0) C dX12_readSum_0 0 rfl ?_
  refine r_cVwz (As := []) (st := []) (wf := mw g q) (pc := 1) C (fun _ _ h => c_X12_readProduct h) kY_X12_readProduct kw_6_219 kw_0_56 kw_6_217 rfl ⟨Nat.le_of_ble_eq_true rfl, Nat.le_of_ble_eq_true rfl⟩ rfl rfl ⟨Nat.zero_le _, Nat.zero_le _⟩ 0 rfl rfl rfl (Nat.le_of_ble_eq_true rfl) dX12_readSum_1 (fun x1 S2 => ?_)
  refine r_ifb_ne 9 (pc := 4) C dX12_readSum_4 (by decide) ?_ ?_
  · refine l_X12_readSum_9 C hR _ (fun S18 => ?_) FU S2
    refine r_iconst (pc := 62) C dX12_readSum_62 (v := 1) (by decide) ?_
    exact r_retWZ hR rfl (pc := 63) dX12_readSum_63
  · refine r_iconst (pc := 7) C dX12_readSum_7 (v := 0) (by decide) ?_
    exact r_retWZ hR rfl (pc := 8) dX12_readSum_8
set_option maxRecDepth 100000 in
theorem w_X12_readSum {S : MS}  {r : Bool} {S' : MS} (h : f_X12_readSum S = some (r, S')) : fI [6, 7, 8, 11, 12] [9] S S' := by
  have hS : fI [6, 7, 8, 11, 12] [9] S S := fI_rf
  refine (?_ : jf (fI [6, 7, 8, 11, 12] [9] S) Prod.snd (f_X12_readSum S)) _ h
  unfold f_X12_readSum
  refine f_bwS (fun _ _ h => fI_tr hS (w_X12_readProduct h) (by decide) (by decide)) (fun x1 S2 hS2 => ?_)
  refine f_ite ?_ ?_
  · refine v_X12_readSum_9 (fun S18 hS18 => ?_) FU S2 hS2
    exact f_some hS18
  · exact f_some hS2
abbrev rm_X12_readCompared : Room := { frames := 5, cells := 0, slots := 0, locals := 105 }
theorem kY_X12_readCompared : kY yX12_readCompared cX12_readCompared 2 (some .boolean) 0 := ⟨kw_1_13, kw_6_212, by decide, by decide, by decide +kernel⟩
def f_X12_readCompared (S : MS) : Option (Bool × MS) :=
  bw (f_X12_readSum S) (fun x1 S2 =>
  (if x1 = true then
  bp (f_X12_here S2) (fun x3 =>
  jn0 (lt (si S2 6 ((S2.1 6) + 1)) fun S4 =>
  bw (f_X12_readSum S4) (fun x5 S6 =>
  (if x5 = true then
  bp (f_X12_does S6 (20000000 + x3)) (fun S7 =>
  some (true, S7))
 else
  some (false, S6)))) (fun k8 =>
  (if x3 = 60 then
  k8
 else
  (if x3 = 62 then
  k8
 else
  (if x3 = 61 then
  k8
 else
  bw (f_X12_fails S2 (S2.1 6)) (fun x10 S11 =>
  some (x10, S11)))))))
 else
  some (false, S2)))
set_option maxRecDepth 100000 in
set_option maxHeartbeats 4000000 in
theorem c_X12_readCompared {g : KG} {q : Nat → Nat} {S : MS}  {r : Bool} {S' : MS} (h : f_X12_readCompared S = some (r, S')) : ∀ l, kM l yX12_readCompared cX12_readCompared 2 (some .boolean) rm_X12_readCompared g [.ref (q 0)] (mw g q S) (mw g q S') (some (.int (b2 r))) 0 0 := by
  refine k_open_z (own := "MarkChainsModel") (by decide) rfl (Nat.le_of_ble_eq_true rfl) (fun X C hR => ?_)
  refine (?_ : jJ X g ((r, S') : Bool × MS) (mw g q S) 0 0 0 [(0, .ref (q 0))] [] (f_X12_readCompared S)) h
  unfold f_X12_readCompared
  refine r_aload_n (pc := 0) C dX12_readCompared_0 0 rfl ?_
  refine r_cVwz (As := []) (st := []) (wf := mw g q) (pc := 1) C (fun _ _ h => c_X12_readSum h) kY_X12_readSum kw_6_215 kw_0_55 kw_6_213 rfl ⟨Nat.le_of_ble_eq_true rfl, Nat.le_of_ble_eq_true rfl⟩ rfl rfl ⟨Nat.zero_le _, Nat.zero_le _⟩ 0 rfl rfl rfl (Nat.le_of_ble_eq_true rfl) dX12_readCompared_1 (fun x1 S2 => ?_)
  refine r_ifb_ne 9 (pc := 4) C dX12_readCompared_4 (by decide) ?_ ?_
  · refine r_aload_n (pc := 9) C dX12_readCompared_9 0 rfl ?_
    refine r_cVpi (As := []) (st := []) (pc := 10) C (fun _ h => c_X12_here h) kY_X12_here kw_6_148 kw_0_41 kw_6_146 rfl ⟨Nat.le_of_ble_eq_true rfl, Nat.le_of_ble_eq_true rfl⟩ rfl rfl ⟨Nat.zero_le _, Nat.zero_le _⟩ 0 rfl rfl rfl (Nat.le_of_ble_eq_true rfl) dX12_readCompared_10 (fun x3 => ?_)
    refine r_istore_n (pc := 13) C dX12_readCompared_13 (lv' := [(0, .ref (q 0)), (1, .int x3)]) (by decide) [1, 0] rfl ?_
    refine r_iload_n (pc := 14) C dX12_readCompared_14 1 rfl ?_
    refine r_bipush (pc := 15) C dX12_readCompared_15 (v := 60) (by decide) ?_
    refine r_jn0 41 (mw g q S2) ([(0, .ref (q 0)), (1, .int x3)]) ([]) ?_ (fun k8 hk9 => ?_)
    · refine r_aload_n (pc := 41) C dX12_readCompared_41 0 rfl ?_
      refine r_dup (pc := 42) C dX12_readCompared_42 rfl ?_
      refine mg_at (pc := 43) C dX12_readCompared_43 ?_
      refine r_iconst (pc := 46) C dX12_readCompared_46 (v := 1) (by decide) ?_
      refine r_iadd (pc := 47) C dX12_readCompared_47 ?_
      refine mp_at (pc := 48) C dX12_readCompared_48 (fun S4 => ?_)
      refine r_aload_n (pc := 51) C dX12_readCompared_51 0 rfl ?_
      refine r_cVwz (As := []) (st := []) (wf := mw g q) (pc := 52) C (fun _ _ h => c_X12_readSum h) kY_X12_readSum kw_6_215 kw_0_55 kw_6_213 rfl ⟨Nat.le_of_ble_eq_true rfl, Nat.le_of_ble_eq_true rfl⟩ rfl rfl ⟨Nat.zero_le _, Nat.zero_le _⟩ 0 rfl rfl rfl (Nat.le_of_ble_eq_true rfl) dX12_readCompared_52 (fun x5 S6 => ?_)
      refine r_ifb_ne 60 (pc := 55) C dX12_readCompared_55 (by decide) ?_ ?_
      · refine r_aload_n (pc := 60) C dX12_readCompared_60 0 rfl ?_
        refine r_ldc (pc := 61) C dX12_readCompared_61 kw_6_233 ?_
        refine r_iload_n (pc := 63) C dX12_readCompared_63 1 rfl ?_
        refine r_iadd (pc := 64) C dX12_readCompared_64 ?_
        refine r_cVwv (As := [.int (20000000 + x3)]) (st := []) (wf := mw g q) (pc := 65) C (fun _ h => c_X12_does h) kY_X12_does kw_6_230 kw_0_58 kw_6_228 rfl ⟨Nat.le_of_ble_eq_true rfl, Nat.le_of_ble_eq_true rfl⟩ rfl rfl ⟨Nat.zero_le _, Nat.zero_le _⟩ 0 rfl rfl rfl (Nat.le_of_ble_eq_true rfl) dX12_readCompared_65 (fun S7 => ?_)
        refine r_iconst (pc := 68) C dX12_readCompared_68 (v := 1) (by decide) ?_
        exact r_retWZ hR rfl (pc := 69) dX12_readCompared_69
      · refine r_iconst (pc := 58) C dX12_readCompared_58 (v := 0) (by decide) ?_
        exact r_retWZ hR rfl (pc := 59) dX12_readCompared_59
    · refine r_icmp_eq 41 (pc := 17) C dX12_readCompared_17 (by decide) ?_ ?_
      · exact hk9
      · refine r_iload_n (pc := 20) C dX12_readCompared_20 1 rfl ?_
        refine r_bipush (pc := 21) C dX12_readCompared_21 (v := 62) (by decide) ?_
        refine r_icmp_eq 41 (pc := 23) C dX12_readCompared_23 (by decide) ?_ ?_
        · exact hk9
        · refine r_iload_n (pc := 26) C dX12_readCompared_26 1 rfl ?_
          refine r_bipush (pc := 27) C dX12_readCompared_27 (v := 61) (by decide) ?_
          refine r_icmp_eq 41 (pc := 29) C dX12_readCompared_29 (by decide) ?_ ?_
          · exact hk9
          · refine r_aload_n (pc := 32) C dX12_readCompared_32 0 rfl ?_
            refine r_aload_n (pc := 33) C dX12_readCompared_33 0 rfl ?_
            refine mg_at (pc := 34) C dX12_readCompared_34 ?_
            refine r_cVwz (As := [.int (S2.1 6)]) (st := []) (wf := mw g q) (pc := 37) C (fun _ _ h => c_X12_fails h) kY_X12_fails kw_6_156 kw_0_43 kw_6_154 rfl ⟨Nat.le_of_ble_eq_true rfl, Nat.le_of_ble_eq_true rfl⟩ rfl rfl ⟨Nat.zero_le _, Nat.zero_le _⟩ 0 rfl rfl rfl (Nat.le_of_ble_eq_true rfl) dX12_readCompared_37 (fun x10 S11 => ?_)
            exact r_retWZ hR rfl (pc := 40) dX12_readCompared_40
  · refine r_iconst (pc := 7) C dX12_readCompared_7 (v := 0) (by decide) ?_
    exact r_retWZ hR rfl (pc := 8) dX12_readCompared_8
set_option maxRecDepth 100000 in
theorem w_X12_readCompared {S : MS}  {r : Bool} {S' : MS} (h : f_X12_readCompared S = some (r, S')) : fI [6, 7, 8, 11, 12] [9] S S' := by
  have hS : fI [6, 7, 8, 11, 12] [9] S S := fI_rf
  refine (?_ : jf (fI [6, 7, 8, 11, 12] [9] S) Prod.snd (f_X12_readCompared S)) _ h
  unfold f_X12_readCompared
  refine f_bwS (fun _ _ h => fI_tr hS (w_X12_readSum h) (by decide) (by decide)) (fun x1 S2 hS2 => ?_)
  refine f_ite ?_ ?_
  · refine f_bp (fun x3 => ?_)
    refine f_jm0 hS2 (fun  hS2 => ?_) (fun k8 hk9 => ?_)
    · refine f_ltS (fI_si hS2 (by decide)) (fun S4 hS4 => ?_)
      refine f_bwS (fun _ _ h => fI_tr hS4 (w_X12_readSum h) (by decide) (by decide)) (fun x5 S6 hS6 => ?_)
      refine f_ite ?_ ?_
      · refine f_bpS (fun _ h => fI_tr hS6 (w_X12_does h) (by decide) (by decide)) (fun S7 hS7 => ?_)
        exact f_some hS7
      · exact f_some hS6
    · refine f_ite ?_ ?_
      · exact hk9 hS2
      · refine f_ite ?_ ?_
        · exact hk9 hS2
        · refine f_ite ?_ ?_
          · exact hk9 hS2
          · refine f_bwS (fun _ _ h => fI_tr hS2 (w_X12_fails h) (by decide) (by decide)) (fun x10 S11 hS11 => ?_)
            exact f_some hS11
  · exact f_some hS2
abbrev rm_X12_readOpen : Room := { frames := 1, cells := 0, slots := 0, locals := 21 }
theorem kY_X12_readOpen : kY yX12_readOpen cX12_readOpen 1 (some .boolean) 0 := ⟨kw_1_13, kw_6_208, by decide, by decide, by decide +kernel⟩
def f_X12_readOpen (S : MS) : Option (Bool × MS) :=
  (if (S.1 16) = 6 then
  bw (f_X12_fails S (S.1 6)) (fun x7 S8 =>
  some (x7, S8))
 else
  bp (f_X12_here S) (fun x1 =>
  chk (S.1 16) 7 (lt (sa S 13 (upd (S.2 13) (S.1 16).toNatClampNeg x1)) fun S2 =>
  lt (si S2 16 ((S2.1 16) + 1)) fun S3 =>
  chk (S3.1 16) 7 (lt (sa S3 14 (upd (S3.2 14) (S3.1 16).toNatClampNeg (vp_nar .boolean 0))) fun S4 =>
  chk (S4.1 16) 7 (lt (sa S4 15 (upd (S4.2 15) (S4.1 16).toNatClampNeg (vp_nar .boolean 0))) fun S5 =>
  lt (si S5 6 ((S5.1 6) + 1)) fun S6 =>
  some (true, S6))))))
set_option maxRecDepth 100000 in
set_option maxHeartbeats 4000000 in
theorem c_X12_readOpen {g : KG} {q : Nat → Nat} {S : MS}  {r : Bool} {S' : MS} (h : f_X12_readOpen S = some (r, S')) : ∀ l, kM l yX12_readOpen cX12_readOpen 1 (some .boolean) rm_X12_readOpen g [.ref (q 0)] (mw g q S) (mw g q S') (some (.int (b2 r))) 0 0 := by
  refine k_open_z (own := "MarkChainsModel") (by decide) rfl (Nat.le_of_ble_eq_true rfl) (fun X C hR => ?_)
  refine (?_ : jJ X g ((r, S') : Bool × MS) (mw g q S) 0 0 0 [(0, .ref (q 0))] [] (f_X12_readOpen S)) h
  unfold f_X12_readOpen
  refine r_aload_n (pc := 0) C dX12_readOpen_0 0 rfl ?_
  refine mg_opens (pc := 1) C dX12_readOpen_1 ?_
  refine r_bipush (pc := 4) C dX12_readOpen_4 (v := 6) (by decide) ?_
  refine r_icmp_ne 18 (pc := 6) C dX12_readOpen_6 (by decide) ?_ ?_
  · refine r_aload_n (pc := 18) C dX12_readOpen_18 0 rfl ?_
    refine mg_opened (pc := 19) C dX12_readOpen_19 ?_
    refine r_aload_n (pc := 22) C dX12_readOpen_22 0 rfl ?_
    refine mg_opens (pc := 23) C dX12_readOpen_23 ?_
    refine r_aload_n (pc := 26) C dX12_readOpen_26 0 rfl ?_
    refine r_cVpi (As := []) (st := [.int (S.1 16), .ref (q 14)]) (pc := 27) C (fun _ h => c_X12_here h) kY_X12_here kw_6_148 kw_0_41 kw_6_146 rfl ⟨Nat.le_of_ble_eq_true rfl, Nat.le_of_ble_eq_true rfl⟩ rfl rfl ⟨Nat.zero_le _, Nat.zero_le _⟩ 0 rfl rfl rfl (Nat.le_of_ble_eq_true rfl) dX12_readOpen_27 (fun x1 => ?_)
    refine ms_opened (pc := 30) C dX12_readOpen_30 (fun S2 => ?_)
    refine r_aload_n (pc := 31) C dX12_readOpen_31 0 rfl ?_
    refine r_dup (pc := 32) C dX12_readOpen_32 rfl ?_
    refine mg_opens (pc := 33) C dX12_readOpen_33 ?_
    refine r_iconst (pc := 36) C dX12_readOpen_36 (v := 1) (by decide) ?_
    refine r_iadd (pc := 37) C dX12_readOpen_37 ?_
    refine mp_opens (pc := 38) C dX12_readOpen_38 (fun S3 => ?_)
    refine r_aload_n (pc := 41) C dX12_readOpen_41 0 rfl ?_
    refine mg_andWaits (pc := 42) C dX12_readOpen_42 ?_
    refine r_aload_n (pc := 45) C dX12_readOpen_45 0 rfl ?_
    refine mg_opens (pc := 46) C dX12_readOpen_46 ?_
    refine r_iconst (pc := 49) C dX12_readOpen_49 (v := 0) (by decide) ?_
    refine ms_andWaits (pc := 50) C dX12_readOpen_50 (fun S4 => ?_)
    refine r_aload_n (pc := 51) C dX12_readOpen_51 0 rfl ?_
    refine mg_orWaits (pc := 52) C dX12_readOpen_52 ?_
    refine r_aload_n (pc := 55) C dX12_readOpen_55 0 rfl ?_
    refine mg_opens (pc := 56) C dX12_readOpen_56 ?_
    refine r_iconst (pc := 59) C dX12_readOpen_59 (v := 0) (by decide) ?_
    refine ms_orWaits (pc := 60) C dX12_readOpen_60 (fun S5 => ?_)
    refine r_aload_n (pc := 61) C dX12_readOpen_61 0 rfl ?_
    refine r_dup (pc := 62) C dX12_readOpen_62 rfl ?_
    refine mg_at (pc := 63) C dX12_readOpen_63 ?_
    refine r_iconst (pc := 66) C dX12_readOpen_66 (v := 1) (by decide) ?_
    refine r_iadd (pc := 67) C dX12_readOpen_67 ?_
    refine mp_at (pc := 68) C dX12_readOpen_68 (fun S6 => ?_)
    refine r_iconst (pc := 71) C dX12_readOpen_71 (v := 1) (by decide) ?_
    exact r_retWZ hR rfl (pc := 72) dX12_readOpen_72
  · refine r_aload_n (pc := 9) C dX12_readOpen_9 0 rfl ?_
    refine r_aload_n (pc := 10) C dX12_readOpen_10 0 rfl ?_
    refine mg_at (pc := 11) C dX12_readOpen_11 ?_
    refine r_cVwz (As := [.int (S.1 6)]) (st := []) (wf := mw g q) (pc := 14) C (fun _ _ h => c_X12_fails h) kY_X12_fails kw_6_156 kw_0_43 kw_6_154 rfl ⟨Nat.le_of_ble_eq_true rfl, Nat.le_of_ble_eq_true rfl⟩ rfl rfl ⟨Nat.zero_le _, Nat.zero_le _⟩ 0 rfl rfl rfl (Nat.le_of_ble_eq_true rfl) dX12_readOpen_14 (fun x7 S8 => ?_)
    exact r_retWZ hR rfl (pc := 17) dX12_readOpen_17
set_option maxRecDepth 100000 in
theorem w_X12_readOpen {S : MS}  {r : Bool} {S' : MS} (h : f_X12_readOpen S = some (r, S')) : fI [6, 7, 16] [13, 14, 15] S S' := by
  have hS : fI [6, 7, 16] [13, 14, 15] S S := fI_rf
  refine (?_ : jf (fI [6, 7, 16] [13, 14, 15] S) Prod.snd (f_X12_readOpen S)) _ h
  unfold f_X12_readOpen
  refine f_ite ?_ ?_
  · refine f_bwS (fun _ _ h => fI_tr hS (w_X12_fails h) (by decide) (by decide)) (fun x7 S8 hS8 => ?_)
    exact f_some hS8
  · refine f_bp (fun x1 => ?_)
    refine f_chk (f_ltS (fI_sa hS (by decide)) (fun S2 hS2 => ?_))
    refine f_ltS (fI_si hS2 (by decide)) (fun S3 hS3 => ?_)
    refine f_chk (f_ltS (fI_sa hS3 (by decide)) (fun S4 hS4 => ?_))
    refine f_chk (f_ltS (fI_sa hS4 (by decide)) (fun S5 hS5 => ?_))
    refine f_ltS (fI_si hS5 (by decide)) (fun S6 hS6 => ?_)
    exact f_some hS6
abbrev rm_X12_behindTest : Room := { frames := 1, cells := 0, slots := 0, locals := 21 }
theorem kY_X12_behindTest : kY yX12_behindTest cX12_behindTest 1 (some .int) 0 := ⟨kw_1_13, kw_6_237, by decide, by decide, by decide +kernel⟩
def L_X12_behindTest_0 : Nat → MS → Option (Int32 × MS) := lo1 fun rec2 S1 =>
  jn0 (chk (S1.1 16) 7 (
  jn1 (fun (S4 : MS) =>
  bp (f_X12_here S4) (fun x5 =>
  jn1 (fun (x6 : Int32) =>
  chk (S4.1 16) 7 (lt (sa S4 14 (upd (S4.2 14) (S4.1 16).toNatClampNeg (vp_nar .boolean x6))) fun S7 =>
  chk (S7.1 16) 7 (
  (if (S7.2 14 (S7.1 16).toNatClampNeg) = 0 then
  chk (S7.1 16) 7 (
  jn1 (fun (S8 : MS) =>
  bp (f_X12_here S8) (fun x9 =>
  jn1 (fun (x10 : Int32) =>
  chk (S8.1 16) 7 (lt (sa S8 15 (upd (S8.2 15) (S8.1 16).toNatClampNeg (vp_nar .boolean x10))) fun S11 =>
  chk (S11.1 16) 7 (
  (if (S11.2 15 (S11.1 16).toNatClampNeg) = 0 then
  (if (S11.1 16) = 0 then
  some (0, S11)
 else
  bp (f_X12_here S11) (fun x12 =>
  (if x12 = 41 then
  lt (si S11 6 ((S11.1 6) + 1)) fun S13 =>
  lt (si S13 16 ((S13.1 16) - 1)) fun S14 =>
  rec2 S14
 else
  lt (si S11 7 (S11.1 6)) fun S15 =>
  some ((-1), S15))))
 else
  some (1, S11))))) (fun k16 =>
  (if x9 = 124 then
  k16 1
 else
  k16 0)))) (fun k18 =>
  (if (S7.2 15 (S7.1 16).toNatClampNeg) = 0 then
  k18 S7
 else
  bp (f_X12_does S7 20000124) (fun S20 =>
  k18 S20))))
 else
  some (1, S7))))) (fun k21 =>
  (if x5 = 38 then
  k21 1
 else
  k21 0)))) (fun k23 =>
  (if (S1.2 14 (S1.1 16).toNatClampNeg) = 0 then
  k23 S1
 else
  bp (f_X12_does S1 20000038) (fun S25 =>
  k23 S25))))) (fun k26 =>
  (if (S1.1 16) ≤ 0 then
  k26
 else
  chk ((S1.1 16) - 1) 7 (
  (if (S1.2 13 ((S1.1 16) - 1).toNatClampNeg) = 33 then
  bp (f_X12_does S1 20000033) (fun S28 =>
  lt (si S28 16 ((S28.1 16) - 1)) fun S29 =>
  rec2 S29)
 else
  k26))))
set_option maxRecDepth 100000 in
set_option maxHeartbeats 4000000 in
theorem l_X12_behindTest_0 {X : KX} {g : KG} {q : Nat → Nat} {res : Int32 × MS} (C : kC X g cX12_behindTest "MarkChainsModel" rm_X12_behindTest 1) (hR : ∀ (pc : Nat) (lv : List (Nat × Value)), decode cX12_behindTest pc = .ok (.ireturn, 1) → jW X g (mw g q res.2) 0 0 pc lv [.int res.1]) : ∀ (n : Nat) (S1 : MS), jJ X g res (mw g q S1) 0 0 0 [(0, .ref (q 0))] [] (L_X12_behindTest_0 n S1) := by
  refine r_lo1 (fun S1 => mw g q S1) (fun S1 => [(0, .ref (q 0))]) (fun rec2 ih3 S1 => ?_)
  refine r_aload_n (pc := 0) C dX12_behindTest_0 0 rfl ?_
  refine mg_opens (pc := 1) C dX12_behindTest_1 ?_
  refine r_jn0 42 (mw g q S1) ([(0, .ref (q 0))]) ([]) ?_ (fun k26 hk27 => ?_)
  · refine r_aload_n (pc := 42) C dX12_behindTest_42 0 rfl ?_
    refine mg_andWaits (pc := 43) C dX12_behindTest_43 ?_
    refine r_aload_n (pc := 46) C dX12_behindTest_46 0 rfl ?_
    refine mg_opens (pc := 47) C dX12_behindTest_47 ?_
    refine ml_andWaits (pc := 50) C dX12_behindTest_50 ?_
    refine r_jn1 60 (fun (S4 : MS) => mw g q S4) (fun (S4 : MS) => [(0, .ref (q 0))]) (fun (S4 : MS) => []) (fun S4 => ?_) (fun k23 hk24 => ?_)
    · refine r_aload_n (pc := 60) C dX12_behindTest_60 0 rfl ?_
      refine mg_andWaits (pc := 61) C dX12_behindTest_61 ?_
      refine r_aload_n (pc := 64) C dX12_behindTest_64 0 rfl ?_
      refine mg_opens (pc := 65) C dX12_behindTest_65 ?_
      refine r_aload_n (pc := 68) C dX12_behindTest_68 0 rfl ?_
      refine r_cVpi (As := []) (st := [.int (S4.1 16), .ref (q 15)]) (pc := 69) C (fun _ h => c_X12_here h) kY_X12_here kw_6_148 kw_0_41 kw_6_146 rfl ⟨Nat.le_of_ble_eq_true rfl, Nat.le_of_ble_eq_true rfl⟩ rfl rfl ⟨Nat.zero_le _, Nat.zero_le _⟩ 0 rfl rfl rfl (Nat.le_of_ble_eq_true rfl) dX12_behindTest_69 (fun x5 => ?_)
      refine r_bipush (pc := 72) C dX12_behindTest_72 (v := 38) (by decide) ?_
      refine r_jn1 82 (fun (x6 : Int32) => mw g q S4) (fun (x6 : Int32) => [(0, .ref (q 0))]) (fun (x6 : Int32) => [.int x6, .int (S4.1 16), .ref (q 15)]) (fun x6 => ?_) (fun k21 hk22 => ?_)
      · refine ms_andWaits (pc := 82) C dX12_behindTest_82 (fun S7 => ?_)
        refine r_aload_n (pc := 83) C dX12_behindTest_83 0 rfl ?_
        refine mg_andWaits (pc := 84) C dX12_behindTest_84 ?_
        refine r_aload_n (pc := 87) C dX12_behindTest_87 0 rfl ?_
        refine mg_opens (pc := 88) C dX12_behindTest_88 ?_
        refine ml_andWaits (pc := 91) C dX12_behindTest_91 ?_
        refine r_if_eq 97 (pc := 92) C dX12_behindTest_92 (by decide) ?_ ?_
        · refine r_aload_n (pc := 97) C dX12_behindTest_97 0 rfl ?_
          refine mg_orWaits (pc := 98) C dX12_behindTest_98 ?_
          refine r_aload_n (pc := 101) C dX12_behindTest_101 0 rfl ?_
          refine mg_opens (pc := 102) C dX12_behindTest_102 ?_
          refine ml_orWaits (pc := 105) C dX12_behindTest_105 ?_
          refine r_jn1 115 (fun (S8 : MS) => mw g q S8) (fun (S8 : MS) => [(0, .ref (q 0))]) (fun (S8 : MS) => []) (fun S8 => ?_) (fun k18 hk19 => ?_)
          · refine r_aload_n (pc := 115) C dX12_behindTest_115 0 rfl ?_
            refine mg_orWaits (pc := 116) C dX12_behindTest_116 ?_
            refine r_aload_n (pc := 119) C dX12_behindTest_119 0 rfl ?_
            refine mg_opens (pc := 120) C dX12_behindTest_120 ?_
            refine r_aload_n (pc := 123) C dX12_behindTest_123 0 rfl ?_
            refine r_cVpi (As := []) (st := [.int (S8.1 16), .ref (q 16)]) (pc := 124) C (fun _ h => c_X12_here h) kY_X12_here kw_6_148 kw_0_41 kw_6_146 rfl ⟨Nat.le_of_ble_eq_true rfl, Nat.le_of_ble_eq_true rfl⟩ rfl rfl ⟨Nat.zero_le _, Nat.zero_le _⟩ 0 rfl rfl rfl (Nat.le_of_ble_eq_true rfl) dX12_behindTest_124 (fun x9 => ?_)
            refine r_bipush (pc := 127) C dX12_behindTest_127 (v := 124) (by decide) ?_
            refine r_jn1 137 (fun (x10 : Int32) => mw g q S8) (fun (x10 : Int32) => [(0, .ref (q 0))]) (fun (x10 : Int32) => [.int x10, .int (S8.1 16), .ref (q 16)]) (fun x10 => ?_) (fun k16 hk17 => ?_)
            · refine ms_orWaits (pc := 137) C dX12_behindTest_137 (fun S11 => ?_)
              refine r_aload_n (pc := 138) C dX12_behindTest_138 0 rfl ?_
              refine mg_orWaits (pc := 139) C dX12_behindTest_139 ?_
              refine r_aload_n (pc := 142) C dX12_behindTest_142 0 rfl ?_
              refine mg_opens (pc := 143) C dX12_behindTest_143 ?_
              refine ml_orWaits (pc := 146) C dX12_behindTest_146 ?_
              refine r_if_eq 152 (pc := 147) C dX12_behindTest_147 (by decide) ?_ ?_
              · refine r_aload_n (pc := 152) C dX12_behindTest_152 0 rfl ?_
                refine mg_opens (pc := 153) C dX12_behindTest_153 ?_
                refine r_if_ne 161 (pc := 156) C dX12_behindTest_156 (by decide) ?_ ?_
                · refine r_aload_n (pc := 161) C dX12_behindTest_161 0 rfl ?_
                  refine r_cVpi (As := []) (st := []) (pc := 162) C (fun _ h => c_X12_here h) kY_X12_here kw_6_148 kw_0_41 kw_6_146 rfl ⟨Nat.le_of_ble_eq_true rfl, Nat.le_of_ble_eq_true rfl⟩ rfl rfl ⟨Nat.zero_le _, Nat.zero_le _⟩ 0 rfl rfl rfl (Nat.le_of_ble_eq_true rfl) dX12_behindTest_162 (fun x12 => ?_)
                  refine r_bipush (pc := 165) C dX12_behindTest_165 (v := 41) (by decide) ?_
                  refine r_icmp_eq 180 (pc := 167) C dX12_behindTest_167 (by decide) ?_ ?_
                  · refine r_aload_n (pc := 180) C dX12_behindTest_180 0 rfl ?_
                    refine r_dup (pc := 181) C dX12_behindTest_181 rfl ?_
                    refine mg_at (pc := 182) C dX12_behindTest_182 ?_
                    refine r_iconst (pc := 185) C dX12_behindTest_185 (v := 1) (by decide) ?_
                    refine r_iadd (pc := 186) C dX12_behindTest_186 ?_
                    refine mp_at (pc := 187) C dX12_behindTest_187 (fun S13 => ?_)
                    refine r_aload_n (pc := 190) C dX12_behindTest_190 0 rfl ?_
                    refine r_dup (pc := 191) C dX12_behindTest_191 rfl ?_
                    refine mg_opens (pc := 192) C dX12_behindTest_192 ?_
                    refine r_iconst (pc := 195) C dX12_behindTest_195 (v := 1) (by decide) ?_
                    refine r_isub (pc := 196) C dX12_behindTest_196 ?_
                    refine mp_opens (pc := 197) C dX12_behindTest_197 (fun S14 => ?_)
                    refine r_goto 0 (pc := 200) C dX12_behindTest_200 (by decide) ?_
                    exact ih3 S14
                  · refine r_aload_n (pc := 170) C dX12_behindTest_170 0 rfl ?_
                    refine r_aload_n (pc := 171) C dX12_behindTest_171 0 rfl ?_
                    refine mg_at (pc := 172) C dX12_behindTest_172 ?_
                    refine mp_faultPlace (pc := 175) C dX12_behindTest_175 (fun S15 => ?_)
                    refine r_iconst (pc := 178) C dX12_behindTest_178 (v := (-1)) (by decide) ?_
                    exact r_retWI (wf := mw g q) hR (pc := 179) dX12_behindTest_179
                · refine r_iconst (pc := 159) C dX12_behindTest_159 (v := 0) (by decide) ?_
                  exact r_retWI (wf := mw g q) hR (pc := 160) dX12_behindTest_160
              · refine r_iconst (pc := 150) C dX12_behindTest_150 (v := 1) (by decide) ?_
                exact r_retWI (wf := mw g q) hR (pc := 151) dX12_behindTest_151
            · refine r_icmp_ne 136 (pc := 129) C dX12_behindTest_129 (by decide) ?_ ?_
              · refine r_iconst (pc := 136) C dX12_behindTest_136 (v := 0) (by decide) ?_
                exact hk17 0
              · refine r_iconst (pc := 132) C dX12_behindTest_132 (v := 1) (by decide) ?_
                refine r_goto 137 (pc := 133) C dX12_behindTest_133 (by decide) ?_
                exact hk17 1
          · refine r_if_eq 115 (pc := 106) C dX12_behindTest_106 (by decide) ?_ ?_
            · exact hk19 S7
            · refine r_aload_n (pc := 109) C dX12_behindTest_109 0 rfl ?_
              refine r_ldc (pc := 110) C dX12_behindTest_110 kw_7_0 ?_
              refine r_cVwv (As := [.int 20000124]) (st := []) (wf := mw g q) (pc := 112) C (fun _ h => c_X12_does h) kY_X12_does kw_6_230 kw_0_58 kw_6_228 rfl ⟨Nat.le_of_ble_eq_true rfl, Nat.le_of_ble_eq_true rfl⟩ rfl rfl ⟨Nat.zero_le _, Nat.zero_le _⟩ 0 rfl rfl rfl (Nat.le_of_ble_eq_true rfl) dX12_behindTest_112 (fun S20 => ?_)
              exact hk19 S20
        · refine r_iconst (pc := 95) C dX12_behindTest_95 (v := 1) (by decide) ?_
          exact r_retWI (wf := mw g q) hR (pc := 96) dX12_behindTest_96
      · refine r_icmp_ne 81 (pc := 74) C dX12_behindTest_74 (by decide) ?_ ?_
        · refine r_iconst (pc := 81) C dX12_behindTest_81 (v := 0) (by decide) ?_
          exact hk22 0
        · refine r_iconst (pc := 77) C dX12_behindTest_77 (v := 1) (by decide) ?_
          refine r_goto 82 (pc := 78) C dX12_behindTest_78 (by decide) ?_
          exact hk22 1
    · refine r_if_eq 60 (pc := 51) C dX12_behindTest_51 (by decide) ?_ ?_
      · exact hk24 S1
      · refine r_aload_n (pc := 54) C dX12_behindTest_54 0 rfl ?_
        refine r_ldc (pc := 55) C dX12_behindTest_55 kw_6_239 ?_
        refine r_cVwv (As := [.int 20000038]) (st := []) (wf := mw g q) (pc := 57) C (fun _ h => c_X12_does h) kY_X12_does kw_6_230 kw_0_58 kw_6_228 rfl ⟨Nat.le_of_ble_eq_true rfl, Nat.le_of_ble_eq_true rfl⟩ rfl rfl ⟨Nat.zero_le _, Nat.zero_le _⟩ 0 rfl rfl rfl (Nat.le_of_ble_eq_true rfl) dX12_behindTest_57 (fun S25 => ?_)
        exact hk24 S25
  · refine r_if_le 42 (pc := 4) C dX12_behindTest_4 (by decide) ?_ ?_
    · exact hk27
    · refine r_aload_n (pc := 7) C dX12_behindTest_7 0 rfl ?_
      refine mg_opened (pc := 8) C dX12_behindTest_8 ?_
      refine r_aload_n (pc := 11) C dX12_behindTest_11 0 rfl ?_
      refine mg_opens (pc := 12) C dX12_behindTest_12 ?_
      refine r_iconst (pc := 15) C dX12_behindTest_15 (v := 1) (by decide) ?_
      refine r_isub (pc := 16) C dX12_behindTest_16 ?_
      refine ml_opened (pc := 17) C dX12_behindTest_17 ?_
      refine r_bipush (pc := 18) C dX12_behindTest_18 (v := 33) (by decide) ?_
      refine r_icmp_ne 42 (pc := 20) C dX12_behindTest_20 (by decide) ?_ ?_
      · exact hk27
      · refine r_aload_n (pc := 23) C dX12_behindTest_23 0 rfl ?_
        refine r_ldc (pc := 24) C dX12_behindTest_24 kw_6_238 ?_
        refine r_cVwv (As := [.int 20000033]) (st := []) (wf := mw g q) (pc := 26) C (fun _ h => c_X12_does h) kY_X12_does kw_6_230 kw_0_58 kw_6_228 rfl ⟨Nat.le_of_ble_eq_true rfl, Nat.le_of_ble_eq_true rfl⟩ rfl rfl ⟨Nat.zero_le _, Nat.zero_le _⟩ 0 rfl rfl rfl (Nat.le_of_ble_eq_true rfl) dX12_behindTest_26 (fun S28 => ?_)
        refine r_aload_n (pc := 29) C dX12_behindTest_29 0 rfl ?_
        refine r_dup (pc := 30) C dX12_behindTest_30 rfl ?_
        refine mg_opens (pc := 31) C dX12_behindTest_31 ?_
        refine r_iconst (pc := 34) C dX12_behindTest_34 (v := 1) (by decide) ?_
        refine r_isub (pc := 35) C dX12_behindTest_35 ?_
        refine mp_opens (pc := 36) C dX12_behindTest_36 (fun S29 => ?_)
        refine r_goto 0 (pc := 39) C dX12_behindTest_39 (by decide) ?_
        exact ih3 S29
set_option maxRecDepth 100000 in
theorem v_X12_behindTest_0 {S0 : MS} : ∀ (n : Nat) (S1 : MS), (fI [6, 7, 11, 16] [9, 14, 15] S0) S1 → jf (fI [6, 7, 11, 16] [9, 14, 15] S0) Prod.snd (L_X12_behindTest_0 n S1) := by
  refine f_lo1 (I := (fI [6, 7, 11, 16] [9, 14, 15] S0)) (fun S1 => S1) (fun rec2 ih3 S1 hS1 => ?_)
  refine f_jm0 hS1 (fun  hS1 => ?_) (fun k26 hk27 => ?_)
  · refine f_chk ?_
    refine f_jn1 (fun S4 hS4 => ?_) (fun k23 hk24 => ?_)
    · refine f_bp (fun x5 => ?_)
      refine f_jm1 hS4 (fun x6 hS4 => ?_) (fun k21 hk22 => ?_)
      · refine f_chk (f_ltS (fI_sa hS4 (by decide)) (fun S7 hS7 => ?_))
        refine f_chk ?_
        refine f_ite ?_ ?_
        · refine f_chk ?_
          refine f_jn1 (fun S8 hS8 => ?_) (fun k18 hk19 => ?_)
          · refine f_bp (fun x9 => ?_)
            refine f_jm1 hS8 (fun x10 hS8 => ?_) (fun k16 hk17 => ?_)
            · refine f_chk (f_ltS (fI_sa hS8 (by decide)) (fun S11 hS11 => ?_))
              refine f_chk ?_
              refine f_ite ?_ ?_
              · refine f_ite ?_ ?_
                · exact f_some hS11
                · refine f_bp (fun x12 => ?_)
                  refine f_ite ?_ ?_
                  · refine f_ltS (fI_si hS11 (by decide)) (fun S13 hS13 => ?_)
                    refine f_ltS (fI_si hS13 (by decide)) (fun S14 hS14 => ?_)
                    exact ih3 S14 hS14
                  · refine f_ltS (fI_si hS11 (by decide)) (fun S15 hS15 => ?_)
                    exact f_some hS15
              · exact f_some hS11
            · refine f_ite ?_ ?_
              · exact hk17 1 hS8
              · exact hk17 0 hS8
          · refine f_ite ?_ ?_
            · exact hk19 S7 hS7
            · refine f_bpS (fun _ h => fI_tr hS7 (w_X12_does h) (by decide) (by decide)) (fun S20 hS20 => ?_)
              exact hk19 S20 hS20
        · exact f_some hS7
      · refine f_ite ?_ ?_
        · exact hk22 1 hS4
        · exact hk22 0 hS4
    · refine f_ite ?_ ?_
      · exact hk24 S1 hS1
      · refine f_bpS (fun _ h => fI_tr hS1 (w_X12_does h) (by decide) (by decide)) (fun S25 hS25 => ?_)
        exact hk24 S25 hS25
  · refine f_ite ?_ ?_
    · exact hk27 hS1
    · refine f_chk ?_
      refine f_ite ?_ ?_
      · refine f_bpS (fun _ h => fI_tr hS1 (w_X12_does h) (by decide) (by decide)) (fun S28 hS28 => ?_)
        refine f_ltS (fI_si hS28 (by decide)) (fun S29 hS29 => ?_)
        exact ih3 S29 hS29
      · exact hk27 hS1
def f_X12_behindTest (S : MS) : Option (Int32 × MS) :=
  L_X12_behindTest_0 FU S
set_option maxRecDepth 100000 in
set_option maxHeartbeats 4000000 in
theorem c_X12_behindTest {g : KG} {q : Nat → Nat} {S : MS}  {r : Int32} {S' : MS} (h : f_X12_behindTest S = some (r, S')) : ∀ l, kM l yX12_behindTest cX12_behindTest 1 (some .int) rm_X12_behindTest g [.ref (q 0)] (mw g q S) (mw g q S') (some (.int r)) 0 0 := by
  refine k_open_i (own := "MarkChainsModel") (by decide) rfl (Nat.le_of_ble_eq_true rfl) (fun X C hR => ?_)
  refine (?_ : jJ X g ((r, S') : Int32 × MS) (mw g q S) 0 0 0 [(0, .ref (q 0))] [] (f_X12_behindTest S)) h
  unfold f_X12_behindTest
  exact l_X12_behindTest_0 C hR FU S
set_option maxRecDepth 100000 in
theorem w_X12_behindTest {S : MS}  {r : Int32} {S' : MS} (h : f_X12_behindTest S = some (r, S')) : fI [6, 7, 11, 16] [9, 14, 15] S S' := by
  have hS : fI [6, 7, 11, 16] [9, 14, 15] S S := fI_rf
  refine (?_ : jf (fI [6, 7, 11, 16] [9, 14, 15] S) Prod.snd (f_X12_behindTest S)) _ h
  unfold f_X12_behindTest
  exact v_X12_behindTest_0 FU S hS
