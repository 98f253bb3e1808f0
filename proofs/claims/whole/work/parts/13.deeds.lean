abbrev rm_X11_ratify : Room := { frames := 4, cells := 1, slots := 5, locals := 94 }
theorem kY_X11_ratify : kY yX11_ratify cX11_ratify 2 (some .int) 1 := ⟨kw_1_1, kw_4_66, by decide, by decide, by decide +kernel⟩
def f_X11_ratify (S : CS) (a1 : Int32) : Option RX :=
  bp (f_X1_hasMark S a1) (fun x1 =>
  (if x1 = true then
  chk a1 60 (
  (if (S.2.1 22 a1.toNatClampNeg) = (-1) then
  chk a1 60 (
  (if (S.2.1 23 a1.toNatClampNeg) = (-1) then
  chk a1 60 (
  bw (f_X11_lackOf S a1 (S.2.1 21 a1.toNatClampNeg)) (fun x2 S3 =>
  (if x2 = (-1) then
  bp (f_X3_add S3) (fun S5 =>
  chk a1 60 (lt (ca S5 22 (upd (S5.2.1 22) a1.toNatClampNeg (S5.1 0))) fun S6 =>
  some (S6.1 0, S6, some ((S3.1 19), 3, a1, (-1), (0 : Int64)))))
 else
  some ((-5), S3, none))))
 else
  some ((-4), S, none)))
 else
  some ((-3), S, none)))
 else
  some ((-2), S, none)))
set_option maxRecDepth 100000 in
set_option maxHeartbeats 4000000 in
theorem c_X11_ratify {g : KG} {q : Nat → Nat} {rg : Nat → Option Nat} {D : va_W} {S : CS} {a1 : Int32} {r : RX} (h : f_X11_ratify S a1 = some r) : ∀ l, kMx l yX11_ratify cX11_ratify 2 (some .int) rm_X11_ratify g [.ref (q 0), .int a1] (cx g q (rc g q rg :: D) S) (pW g q rg D r) 1 5 := by
  refine k_openx_i (own := "MarkChains") (by decide) rfl (Nat.le_of_ble_eq_true rfl) (fun X C hR => ?_)
  refine (?_ : jJ X g r (cx g q (rc g q rg :: D) S) 0 0 0 [(0, .ref (q 0)), (1, .int a1)] [] (f_X11_ratify S a1)) h
  unfold f_X11_ratify
  refine r_aload_n (pc := 0) C dX11_ratify_0 0 rfl ?_
  refine xg_x_book (pc := 1) C kw_2_75 dX11_ratify_1 ?_
  refine r_iload_n (pc := 4) C dX11_ratify_4 1 rfl ?_
  refine r_cVpz (As := [.int a1]) (st := []) (pc := 5) C (fun _ h => c_X1_hasMark h) kY_X1_hasMark kw_4_44 kw_4_45 kw_4_43 rfl ⟨Nat.le_of_ble_eq_true rfl, Nat.le_of_ble_eq_true rfl⟩ rfl rfl ⟨Nat.zero_le _, Nat.zero_le _⟩ 3 rfl rfl rfl (Nat.le_of_ble_eq_true rfl) dX11_ratify_5 (fun x1 => ?_)
  refine r_ifb_ne 14 (pc := 8) C dX11_ratify_8 (by decide) ?_ ?_
  · refine r_aload_n (pc := 14) C dX11_ratify_14 0 rfl ?_
    refine xg_x_book (pc := 15) C kw_2_75 dX11_ratify_15 ?_
    refine xgN_bk_ratified (pc := 18) C knf_26 dX11_ratify_18 ?_
    refine r_iload_n (pc := 21) C dX11_ratify_21 1 rfl ?_
    refine xl_bk_ratified (pc := 22) C dX11_ratify_22 ?_
    refine r_iconst (pc := 23) C dX11_ratify_23 (v := (-1)) (by decide) ?_
    refine r_icmp_eq 30 (pc := 24) C dX11_ratify_24 (by decide) ?_ ?_
    · refine r_aload_n (pc := 30) C dX11_ratify_30 0 rfl ?_
      refine xg_x_book (pc := 31) C kw_2_75 dX11_ratify_31 ?_
      refine xgN_bk_struck (pc := 34) C knf_27 dX11_ratify_34 ?_
      refine r_iload_n (pc := 37) C dX11_ratify_37 1 rfl ?_
      refine xl_bk_struck (pc := 38) C dX11_ratify_38 ?_
      refine r_iconst (pc := 39) C dX11_ratify_39 (v := (-1)) (by decide) ?_
      refine r_icmp_eq 46 (pc := 40) C dX11_ratify_40 (by decide) ?_ ?_
      · refine r_aload_n (pc := 46) C dX11_ratify_46 0 rfl ?_
        refine r_iload_n (pc := 47) C dX11_ratify_47 1 rfl ?_
        refine r_aload_n (pc := 48) C dX11_ratify_48 0 rfl ?_
        refine xg_x_book (pc := 49) C kw_2_75 dX11_ratify_49 ?_
        refine xgN_bk_papers (pc := 52) C knf_25 dX11_ratify_52 ?_
        refine r_iload_n (pc := 55) C dX11_ratify_55 1 rfl ?_
        refine xl_bk_papers (pc := 56) C dX11_ratify_56 ?_
        refine r_cVwi (As := [.int a1, .int (S.2.1 21 a1.toNatClampNeg)]) (st := []) (wf := cx g q (rc g q rg :: D)) (pc := 57) C (fun _ _ h => c_X11_lackOf h) kY_X11_lackOf kw_4_10 kw_0_20 kw_4_8 rfl ⟨Nat.le_of_ble_eq_true rfl, Nat.le_of_ble_eq_true rfl⟩ rfl rfl ⟨Nat.zero_le _, Nat.zero_le _⟩ 0 rfl rfl rfl (Nat.le_of_ble_eq_true rfl) dX11_ratify_57 (fun x2 S3 => ?_)
        refine r_iconst (pc := 60) C dX11_ratify_60 (v := (-1)) (by decide) ?_
        refine r_icmp_eq 67 (pc := 61) C dX11_ratify_61 (by decide) ?_ ?_
        · refine r_aload_n (pc := 67) C dX11_ratify_67 0 rfl ?_
          refine xg_x_deeds (pc := 68) C kw_2_79 dX11_ratify_68 ?_
          refine r_new (pc := 71) (ci := 2) (fs := [.int 0, .int 0, .int 0, .long 0, .null]) C kin_X2 tyX2 tyX2_ok kw_3_92 kw_3_93 kw_1_19 rfl k_fs2 ⟨Nat.le_of_ble_eq_true rfl, Nat.le_of_ble_eq_true rfl⟩ dX11_ratify_71 (fun ad4 => ?_)
          refine r_perm (ws' := cx g q (rc g q rg :: dz ad4 :: D) S3) k_pnew ?_
          refine r_dup (pc := 74) C dX11_ratify_74 rfl ?_
          refine r_iconst (pc := 75) C dX11_ratify_75 (v := 3) (by decide) ?_
          refine r_iload_n (pc := 76) C dX11_ratify_76 1 rfl ?_
          refine r_iconst (pc := 77) C dX11_ratify_77 (v := (-1)) (by decide) ?_
          refine r_lconst (pc := 78) C dX11_ratify_78 (v := 0) (by decide) ?_
          refine r_null (pc := 79) C dX11_ratify_79 ?_
          refine r_cI0 (w1 := cx g q (rc g q rg :: dc ad4 3 a1 (-1) (0 : Int64) none :: D) S3) (As := [.int 3, .int a1, .int (-1), .long 0, .null]) (st := [.ref ad4, .ref (q 34)]) (pc := 80) C c_X2_initN kY_X2_init kw_3_95 rfl kw_3_94 rfl ⟨Nat.le_of_ble_eq_true rfl, Nat.le_of_ble_eq_true rfl⟩ rfl rfl ⟨Nat.le_of_ble_eq_true rfl, Nat.le_of_ble_eq_true rfl⟩ rfl (Nat.le_of_ble_eq_true rfl) dX11_ratify_80 ?_
          refine r_callV (α := CS) (ov := fun _ => none) (wv := fun S5 => cx g q (rc g q (va_up rg (S3.1 19).toNatClampNeg (some ad4)) :: dc ad4 3 a1 (-1) (0 : Int64) none :: D) S5) (mc := 0) (ms := 0) (As := [.ref ad4]) (st := []) (pc := 83) C (fun _ h => c_X3_add h) kY_X3_add kw_3_121 kw_3_122 kw_3_120 rfl ⟨Nat.le_of_ble_eq_true rfl, Nat.le_of_ble_eq_true rfl⟩ rfl rfl ⟨Nat.le_of_ble_eq_true rfl, Nat.le_of_ble_eq_true rfl⟩ 34 rfl rfl rfl (Nat.le_of_ble_eq_true rfl) dX11_ratify_83 (fun S5 => ?_)
          refine r_aload_n (pc := 86) C dX11_ratify_86 0 rfl ?_
          refine xg_x_book (pc := 87) C kw_2_75 dX11_ratify_87 ?_
          refine xgN_bk_ratified (pc := 90) C knf_26 dX11_ratify_90 ?_
          refine r_iload_n (pc := 93) C dX11_ratify_93 1 rfl ?_
          refine r_aload_n (pc := 94) C dX11_ratify_94 0 rfl ?_
          refine xg_x_today (pc := 95) C kw_2_86 dX11_ratify_95 ?_
          refine xs_bk_ratified (pc := 98) C dX11_ratify_98 (fun S6 => ?_)
          refine r_aload_n (pc := 99) C dX11_ratify_99 0 rfl ?_
          refine xg_x_today (pc := 100) C kw_2_86 dX11_ratify_100 ?_
          exact r_retX (Φ := pW g q rg D) hR ⟨rfl, ad4, rfl⟩ (pc := 103) dX11_ratify_103
        · refine r_bipush (pc := 64) C dX11_ratify_64 (v := (-5)) (by decide) ?_
          refine r_widen (a' := 1) (b' := 5) (Nat.zero_le _) (Nat.zero_le _) ?_
          exact r_retX (Φ := pW g q rg D) hR ⟨rfl, rfl⟩ (pc := 66) dX11_ratify_66
      · refine r_bipush (pc := 43) C dX11_ratify_43 (v := (-4)) (by decide) ?_
        refine r_widen (a' := 1) (b' := 5) (Nat.zero_le _) (Nat.zero_le _) ?_
        exact r_retX (Φ := pW g q rg D) hR ⟨rfl, rfl⟩ (pc := 45) dX11_ratify_45
    · refine r_bipush (pc := 27) C dX11_ratify_27 (v := (-3)) (by decide) ?_
      refine r_widen (a' := 1) (b' := 5) (Nat.zero_le _) (Nat.zero_le _) ?_
      exact r_retX (Φ := pW g q rg D) hR ⟨rfl, rfl⟩ (pc := 29) dX11_ratify_29
  · refine r_bipush (pc := 11) C dX11_ratify_11 (v := (-2)) (by decide) ?_
    refine r_widen (a' := 1) (b' := 5) (Nat.zero_le _) (Nat.zero_le _) ?_
    exact r_retX (Φ := pW g q rg D) hR ⟨rfl, rfl⟩ (pc := 13) dX11_ratify_13
set_option maxRecDepth 100000 in
theorem w_X11_ratify {S : CS} {a1 : Int32} {r : RX} (h : f_X11_ratify S a1 = some r) : okR S r := by
  have hS : i1 S S := i1_rf
  refine (?_ : jh (okR S) (f_X11_ratify S a1)) _ h
  unfold f_X11_ratify
  refine h_bp (fun x1 => ?_)
  refine h_ite ?_ ?_
  · refine h_chk ?_
    refine h_ite ?_ ?_
    · refine h_chk ?_
      refine h_ite ?_ ?_
      · refine h_chk ?_
        refine h_bwS (fun _ _ h => i1_tr hS (w_X11_lackOf h) (by decide) (by decide)) (fun x2 S3 hS3 => ?_)
        refine h_ite ?_ ?_
        · have hE := hS3.1
          refine h_bpS (fun _ h => i2_add hS3 h) (fun S5 hS5 => ?_)
          refine h_chk (h_ltS (i2_ca hS5) (fun S6 hS6 => ?_))
          exact h_some ⟨hE, hS6⟩
        · exact h_some hS3
      · exact h_some hS
    · exact h_some hS
  · exact h_some hS
abbrev rm_X11_strike : Room := { frames := 2, cells := 1, slots := 5, locals := 46 }
theorem kY_X11_strike : kY yX11_strike cX11_strike 2 (some .int) 1 := ⟨kw_1_1, kw_4_70, by decide, by decide, by decide +kernel⟩
def f_X11_strike (S : CS) (a1 : Int32) : Option RX :=
  bp (f_X1_hasMark S a1) (fun x1 =>
  (if x1 = true then
  chk a1 60 (
  (if (S.2.1 23 a1.toNatClampNeg) = (-1) then
  bp (f_X3_add S) (fun S3 =>
  chk a1 60 (lt (ca S3 23 (upd (S3.2.1 23) a1.toNatClampNeg (S3.1 0))) fun S4 =>
  some (S4.1 0, S4, some ((S.1 19), 4, (-1), (-1), ((1 : Int64) <<< (a1.toInt64 &&& 63))))))
 else
  some ((-3), S, none)))
 else
  some ((-2), S, none)))
set_option maxRecDepth 100000 in
set_option maxHeartbeats 4000000 in
theorem c_X11_strike {g : KG} {q : Nat → Nat} {rg : Nat → Option Nat} {D : va_W} {S : CS} {a1 : Int32} {r : RX} (h : f_X11_strike S a1 = some r) : ∀ l, kMx l yX11_strike cX11_strike 2 (some .int) rm_X11_strike g [.ref (q 0), .int a1] (cx g q (rc g q rg :: D) S) (pW g q rg D r) 1 5 := by
  refine k_openx_i (own := "MarkChains") (by decide) rfl (Nat.le_of_ble_eq_true rfl) (fun X C hR => ?_)
  refine (?_ : jJ X g r (cx g q (rc g q rg :: D) S) 0 0 0 [(0, .ref (q 0)), (1, .int a1)] [] (f_X11_strike S a1)) h
  unfold f_X11_strike
  refine r_aload_n (pc := 0) C dX11_strike_0 0 rfl ?_
  refine xg_x_book (pc := 1) C kw_2_75 dX11_strike_1 ?_
  refine r_iload_n (pc := 4) C dX11_strike_4 1 rfl ?_
  refine r_cVpz (As := [.int a1]) (st := []) (pc := 5) C (fun _ h => c_X1_hasMark h) kY_X1_hasMark kw_4_44 kw_4_45 kw_4_43 rfl ⟨Nat.le_of_ble_eq_true rfl, Nat.le_of_ble_eq_true rfl⟩ rfl rfl ⟨Nat.zero_le _, Nat.zero_le _⟩ 3 rfl rfl rfl (Nat.le_of_ble_eq_true rfl) dX11_strike_5 (fun x1 => ?_)
  refine r_ifb_ne 14 (pc := 8) C dX11_strike_8 (by decide) ?_ ?_
  · refine r_aload_n (pc := 14) C dX11_strike_14 0 rfl ?_
    refine xg_x_book (pc := 15) C kw_2_75 dX11_strike_15 ?_
    refine xgN_bk_struck (pc := 18) C knf_27 dX11_strike_18 ?_
    refine r_iload_n (pc := 21) C dX11_strike_21 1 rfl ?_
    refine xl_bk_struck (pc := 22) C dX11_strike_22 ?_
    refine r_iconst (pc := 23) C dX11_strike_23 (v := (-1)) (by decide) ?_
    refine r_icmp_eq 30 (pc := 24) C dX11_strike_24 (by decide) ?_ ?_
    · refine r_aload_n (pc := 30) C dX11_strike_30 0 rfl ?_
      refine xg_x_deeds (pc := 31) C kw_2_79 dX11_strike_31 ?_
      refine r_new (pc := 34) (ci := 2) (fs := [.int 0, .int 0, .int 0, .long 0, .null]) C kin_X2 tyX2 tyX2_ok kw_3_92 kw_3_93 kw_1_19 rfl k_fs2 ⟨Nat.le_of_ble_eq_true rfl, Nat.le_of_ble_eq_true rfl⟩ dX11_strike_34 (fun ad2 => ?_)
      refine r_perm (ws' := cx g q (rc g q rg :: dz ad2 :: D) S) k_pnew ?_
      refine r_dup (pc := 37) C dX11_strike_37 rfl ?_
      refine r_iconst (pc := 38) C dX11_strike_38 (v := 4) (by decide) ?_
      refine r_iconst (pc := 39) C dX11_strike_39 (v := (-1)) (by decide) ?_
      refine r_iconst (pc := 40) C dX11_strike_40 (v := (-1)) (by decide) ?_
      refine r_lconst (pc := 41) C dX11_strike_41 (v := 1) (by decide) ?_
      refine r_iload_n (pc := 42) C dX11_strike_42 1 rfl ?_
      refine r_lshl (pc := 43) C dX11_strike_43 ?_
      refine r_null (pc := 44) C dX11_strike_44 ?_
      refine r_cI0 (w1 := cx g q (rc g q rg :: dc ad2 4 (-1) (-1) ((1 : Int64) <<< (a1.toInt64 &&& 63)) none :: D) S) (As := [.int 4, .int (-1), .int (-1), .long ((1 : Int64) <<< (a1.toInt64 &&& 63)), .null]) (st := [.ref ad2, .ref (q 34)]) (pc := 45) C c_X2_initN kY_X2_init kw_3_95 rfl kw_3_94 rfl ⟨Nat.le_of_ble_eq_true rfl, Nat.le_of_ble_eq_true rfl⟩ rfl rfl ⟨Nat.le_of_ble_eq_true rfl, Nat.le_of_ble_eq_true rfl⟩ rfl (Nat.le_of_ble_eq_true rfl) dX11_strike_45 ?_
      refine r_callV (α := CS) (ov := fun _ => none) (wv := fun S3 => cx g q (rc g q (va_up rg (S.1 19).toNatClampNeg (some ad2)) :: dc ad2 4 (-1) (-1) ((1 : Int64) <<< (a1.toInt64 &&& 63)) none :: D) S3) (mc := 0) (ms := 0) (As := [.ref ad2]) (st := []) (pc := 48) C (fun _ h => c_X3_add h) kY_X3_add kw_3_121 kw_3_122 kw_3_120 rfl ⟨Nat.le_of_ble_eq_true rfl, Nat.le_of_ble_eq_true rfl⟩ rfl rfl ⟨Nat.le_of_ble_eq_true rfl, Nat.le_of_ble_eq_true rfl⟩ 34 rfl rfl rfl (Nat.le_of_ble_eq_true rfl) dX11_strike_48 (fun S3 => ?_)
      refine r_aload_n (pc := 51) C dX11_strike_51 0 rfl ?_
      refine xg_x_book (pc := 52) C kw_2_75 dX11_strike_52 ?_
      refine xgN_bk_struck (pc := 55) C knf_27 dX11_strike_55 ?_
      refine r_iload_n (pc := 58) C dX11_strike_58 1 rfl ?_
      refine r_aload_n (pc := 59) C dX11_strike_59 0 rfl ?_
      refine xg_x_today (pc := 60) C kw_2_86 dX11_strike_60 ?_
      refine xs_bk_struck (pc := 63) C dX11_strike_63 (fun S4 => ?_)
      refine r_aload_n (pc := 64) C dX11_strike_64 0 rfl ?_
      refine xg_x_today (pc := 65) C kw_2_86 dX11_strike_65 ?_
      exact r_retX (Φ := pW g q rg D) hR ⟨rfl, ad2, rfl⟩ (pc := 68) dX11_strike_68
    · refine r_bipush (pc := 27) C dX11_strike_27 (v := (-3)) (by decide) ?_
      refine r_widen (a' := 1) (b' := 5) (Nat.zero_le _) (Nat.zero_le _) ?_
      exact r_retX (Φ := pW g q rg D) hR ⟨rfl, rfl⟩ (pc := 29) dX11_strike_29
  · refine r_bipush (pc := 11) C dX11_strike_11 (v := (-2)) (by decide) ?_
    refine r_widen (a' := 1) (b' := 5) (Nat.zero_le _) (Nat.zero_le _) ?_
    exact r_retX (Φ := pW g q rg D) hR ⟨rfl, rfl⟩ (pc := 13) dX11_strike_13
set_option maxRecDepth 100000 in
theorem w_X11_strike {S : CS} {a1 : Int32} {r : RX} (h : f_X11_strike S a1 = some r) : okR S r := by
  have hS : i1 S S := i1_rf
  refine (?_ : jh (okR S) (f_X11_strike S a1)) _ h
  unfold f_X11_strike
  refine h_bp (fun x1 => ?_)
  refine h_ite ?_ ?_
  · refine h_chk ?_
    refine h_ite ?_ ?_
    · have hE := hS.1
      refine h_bpS (fun _ h => i2_add hS h) (fun S3 hS3 => ?_)
      refine h_chk (h_ltS (i2_ca hS3) (fun S4 hS4 => ?_))
      exact h_some ⟨hE, hS4⟩
    · exact h_some hS
  · exact h_some hS
abbrev rm_X11_ban : Room := { frames := 2, cells := 1, slots := 5, locals := 46 }
theorem kY_X11_ban : kY yX11_ban cX11_ban 9 (some .int) 3 := ⟨kw_1_1, kw_4_74, by decide, by decide, by decide +kernel⟩
def L_X11_ban_30 (c1 : Int32) (c2 : Int32) (c3 : Int32) (k8 : CS → Int64 → Int32 → Option (RX)) : Nat → CS → Int64 → Int32 → Int32 → Option (RX) := lo4 fun rec6 S5 x2 x3 x4 =>
  (if (S5.1 6) ≤ x4 then
  k8 S5 x2 x3
 else
  chk x4 60 (
  lt (S5.2.1 16 x4.toNatClampNeg) fun x10 =>
  chk x4 60 (
  (if (S5.2.1 14 x4.toNatClampNeg) = c1 then
  chk x4 60 (
  (if (S5.2.1 23 x4.toNatClampNeg) = (-1) then
  (if x10 < c2 then
  lt (x4 + 1) fun x13 =>
  rec6 S5 x2 x3 x13
 else
  (if c3 < x10 then
  lt (x4 + 1) fun x14 =>
  rec6 S5 x2 x3 x14
 else
  chk x4 60 (lt (ca S5 23 (upd (S5.2.1 23) x4.toNatClampNeg (S5.1 0))) fun S15 =>
  lt (x2 ||| ((1 : Int64) <<< (x4.toInt64 &&& 63))) fun x16 =>
  lt (x3 + 1) fun x17 =>
  lt (x4 + 1) fun x18 =>
  rec6 S15 x16 x17 x18)))
 else
  lt (x4 + 1) fun x12 =>
  rec6 S5 x2 x3 x12))
 else
  lt (x4 + 1) fun x11 =>
  rec6 S5 x2 x3 x11))))
set_option maxRecDepth 100000 in
set_option maxHeartbeats 4000000 in
theorem l_X11_ban_30 {X : KX} {g : KG} {q : Nat → Nat} {E : va_W} {res : RX} (C : kC X g cX11_ban "MarkChains" rm_X11_ban 9) (c1 : Int32) (c2 : Int32) (c3 : Int32) (k8 : CS → Int64 → Int32 → Option (RX)) (hk9 : ∀ (S19 : CS) (x20 : Int64) (x21 : Int32), jJ X g res (cx g q E S19) 0 0 126 [(0, .ref (q 0)), (4, .long x20), (6, .int x21)] [] (k8 S19 x20 x21)) : ∀ (n : Nat) (S5 : CS) (x2 : Int64) (x3 : Int32) (x4 : Int32), jJ X g res (cx g q E S5) 0 0 30 [(0, .ref (q 0)), (1, .int c1), (2, .int c2), (3, .int c3), (4, .long x2), (6, .int x3), (7, .int x4)] [] (L_X11_ban_30 c1 c2 c3 k8 n S5 x2 x3 x4) := by
  refine r_lo4 (fun S5 x2 x3 x4 => cx g q E S5) (fun S5 x2 x3 x4 => [(0, .ref (q 0)), (1, .int c1), (2, .int c2), (3, .int c3), (4, .long x2), (6, .int x3), (7, .int x4)]) (fun rec6 ih7 S5 x2 x3 x4 => ?_)
  refine r_iload (pc := 30) C dX11_ban_30 6 rfl ?_
  refine r_aload_n (pc := 32) C dX11_ban_32 0 rfl ?_
  refine xg_x_book (pc := 33) C kw_2_75 dX11_ban_33 ?_
  refine xgN_bk_size (pc := 36) C knf_30 dX11_ban_36 ?_
  refine r_icmp_ge 126 (pc := 39) C dX11_ban_39 (by decide) ?_ ?_
  · refine r_sub (lv' := [(0, .ref (q 0)), (4, .long x2), (6, .int x3)]) [0, 4, 5] rfl ?_
    exact hk9 S5 x2 x3
  · refine r_aload_n (pc := 42) C dX11_ban_42 0 rfl ?_
    refine xg_x_book (pc := 43) C kw_2_75 dX11_ban_43 ?_
    refine xgN_bk_day (pc := 46) C knf_21 dX11_ban_46 ?_
    refine r_iload (pc := 49) C dX11_ban_49 6 rfl ?_
    refine xl_bk_day (pc := 51) C dX11_ban_51 ?_
    refine r_istoreV (pc := 52) C dX11_ban_52 (lv' := fun x10 => [(0, .ref (q 0)), (1, .int c1), (2, .int c2), (3, .int c3), (4, .long x2), (6, .int x3), (7, .int x4), (8, .int x10)]) (by decide) [1, 2, 3, 4, 5, 6, 7, 0] (fun _ => rfl) (fun x10 => ?_)
    refine r_aload_n (pc := 54) C dX11_ban_54 0 rfl ?_
    refine xg_x_book (pc := 55) C kw_2_75 dX11_ban_55 ?_
    refine xgN_bk_athlete (pc := 58) C knf_19 dX11_ban_58 ?_
    refine r_iload (pc := 61) C dX11_ban_61 6 rfl ?_
    refine xl_bk_athlete (pc := 63) C dX11_ban_63 ?_
    refine r_iload_n (pc := 64) C dX11_ban_64 1 rfl ?_
    refine r_icmp_ne 120 (pc := 65) C dX11_ban_65 (by decide) ?_ ?_
    · refine r_iinc (pc := 120) C dX11_ban_120 (v := 1) (lv' := fun x11 => [(0, .ref (q 0)), (1, .int c1), (2, .int c2), (3, .int c3), (4, .long x2), (6, .int x3), (7, .int x11), (8, .int x10)]) 6 rfl (by decide) (by decide) [1, 2, 3, 4, 5, 6, 0, 7] (fun _ => rfl) (fun x11 => ?_)
      refine r_goto 30 (pc := 123) C dX11_ban_123 (by decide) ?_
      refine r_sub (lv' := [(0, .ref (q 0)), (1, .int c1), (2, .int c2), (3, .int c3), (4, .long x2), (6, .int x3), (7, .int x11)]) [0, 1, 2, 3, 4, 5, 6] rfl ?_
      exact ih7 S5 x2 x3 x11
    · refine r_aload_n (pc := 68) C dX11_ban_68 0 rfl ?_
      refine xg_x_book (pc := 69) C kw_2_75 dX11_ban_69 ?_
      refine xgN_bk_struck (pc := 72) C knf_27 dX11_ban_72 ?_
      refine r_iload (pc := 75) C dX11_ban_75 6 rfl ?_
      refine xl_bk_struck (pc := 77) C dX11_ban_77 ?_
      refine r_iconst (pc := 78) C dX11_ban_78 (v := (-1)) (by decide) ?_
      refine r_icmp_ne 120 (pc := 79) C dX11_ban_79 (by decide) ?_ ?_
      · refine r_iinc (pc := 120) C dX11_ban_120 (v := 1) (lv' := fun x12 => [(0, .ref (q 0)), (1, .int c1), (2, .int c2), (3, .int c3), (4, .long x2), (6, .int x3), (7, .int x12), (8, .int x10)]) 6 rfl (by decide) (by decide) [1, 2, 3, 4, 5, 6, 0, 7] (fun _ => rfl) (fun x12 => ?_)
        refine r_goto 30 (pc := 123) C dX11_ban_123 (by decide) ?_
        refine r_sub (lv' := [(0, .ref (q 0)), (1, .int c1), (2, .int c2), (3, .int c3), (4, .long x2), (6, .int x3), (7, .int x12)]) [0, 1, 2, 3, 4, 5, 6] rfl ?_
        exact ih7 S5 x2 x3 x12
      · refine r_iload (pc := 82) C dX11_ban_82 7 rfl ?_
        refine r_iload_n (pc := 84) C dX11_ban_84 2 rfl ?_
        refine r_icmp_lt 120 (pc := 85) C dX11_ban_85 (by decide) ?_ ?_
        · refine r_iinc (pc := 120) C dX11_ban_120 (v := 1) (lv' := fun x13 => [(0, .ref (q 0)), (1, .int c1), (2, .int c2), (3, .int c3), (4, .long x2), (6, .int x3), (7, .int x13), (8, .int x10)]) 6 rfl (by decide) (by decide) [1, 2, 3, 4, 5, 6, 0, 7] (fun _ => rfl) (fun x13 => ?_)
          refine r_goto 30 (pc := 123) C dX11_ban_123 (by decide) ?_
          refine r_sub (lv' := [(0, .ref (q 0)), (1, .int c1), (2, .int c2), (3, .int c3), (4, .long x2), (6, .int x3), (7, .int x13)]) [0, 1, 2, 3, 4, 5, 6] rfl ?_
          exact ih7 S5 x2 x3 x13
        · refine r_iload (pc := 88) C dX11_ban_88 7 rfl ?_
          refine r_iload_n (pc := 90) C dX11_ban_90 3 rfl ?_
          refine r_icmp_gt 120 (pc := 91) C dX11_ban_91 (by decide) ?_ ?_
          · refine r_iinc (pc := 120) C dX11_ban_120 (v := 1) (lv' := fun x14 => [(0, .ref (q 0)), (1, .int c1), (2, .int c2), (3, .int c3), (4, .long x2), (6, .int x3), (7, .int x14), (8, .int x10)]) 6 rfl (by decide) (by decide) [1, 2, 3, 4, 5, 6, 0, 7] (fun _ => rfl) (fun x14 => ?_)
            refine r_goto 30 (pc := 123) C dX11_ban_123 (by decide) ?_
            refine r_sub (lv' := [(0, .ref (q 0)), (1, .int c1), (2, .int c2), (3, .int c3), (4, .long x2), (6, .int x3), (7, .int x14)]) [0, 1, 2, 3, 4, 5, 6] rfl ?_
            exact ih7 S5 x2 x3 x14
          · refine r_aload_n (pc := 94) C dX11_ban_94 0 rfl ?_
            refine xg_x_book (pc := 95) C kw_2_75 dX11_ban_95 ?_
            refine xgN_bk_struck (pc := 98) C knf_27 dX11_ban_98 ?_
            refine r_iload (pc := 101) C dX11_ban_101 6 rfl ?_
            refine r_aload_n (pc := 103) C dX11_ban_103 0 rfl ?_
            refine xg_x_today (pc := 104) C kw_2_86 dX11_ban_104 ?_
            refine xs_bk_struck (pc := 107) C dX11_ban_107 (fun S15 => ?_)
            refine r_lload (pc := 108) C dX11_ban_108 4 rfl ?_
            refine r_lconst (pc := 110) C dX11_ban_110 (v := 1) (by decide) ?_
            refine r_iload (pc := 111) C dX11_ban_111 6 rfl ?_
            refine r_lshl (pc := 113) C dX11_ban_113 ?_
            refine r_lor (pc := 114) C dX11_ban_114 ?_
            refine r_lstoreV (pc := 115) C dX11_ban_115 (lv' := fun x16 => [(0, .ref (q 0)), (1, .int c1), (2, .int c2), (3, .int c3), (4, .long x16), (6, .int x3), (7, .int x4), (8, .int x10)]) (by decide) [1, 2, 3, 4, 0, 5, 6, 7] (fun _ => rfl) (fun x16 => ?_)
            refine r_iinc (pc := 117) C dX11_ban_117 (v := 1) (lv' := fun x17 => [(0, .ref (q 0)), (1, .int c1), (2, .int c2), (3, .int c3), (4, .long x16), (6, .int x17), (7, .int x4), (8, .int x10)]) 5 rfl (by decide) (by decide) [1, 2, 3, 4, 5, 0, 6, 7] (fun _ => rfl) (fun x17 => ?_)
            refine r_iinc (pc := 120) C dX11_ban_120 (v := 1) (lv' := fun x18 => [(0, .ref (q 0)), (1, .int c1), (2, .int c2), (3, .int c3), (4, .long x16), (6, .int x17), (7, .int x18), (8, .int x10)]) 6 rfl (by decide) (by decide) [1, 2, 3, 4, 5, 6, 0, 7] (fun _ => rfl) (fun x18 => ?_)
            refine r_goto 30 (pc := 123) C dX11_ban_123 (by decide) ?_
            refine r_sub (lv' := [(0, .ref (q 0)), (1, .int c1), (2, .int c2), (3, .int c3), (4, .long x16), (6, .int x17), (7, .int x18)]) [0, 1, 2, 3, 4, 5, 6] rfl ?_
            exact ih7 S15 x16 x17 x18
def f_X11_ban (S : CS) (a1 : Int32) (a2 : Int32) (a3 : Int32) : Option RX :=
  bp (f_X8_has_pa S a1) (fun x1 =>
  (if x1 = true then
  (if a2 ≤ a3 then
  L_X11_ban_30 a1 a2 a3 (fun S22 x23 x24 =>
  bp (f_X3_add S22) (fun S26 =>
  some (x24, S26, some ((S22.1 19), 4, (-1), (-1), x23)))) FU S 0 0 0
 else
  some ((-1), S, none))
 else
  some ((-1), S, none)))
set_option maxRecDepth 100000 in
set_option maxHeartbeats 4000000 in
theorem c_X11_ban {g : KG} {q : Nat → Nat} {rg : Nat → Option Nat} {D : va_W} {S : CS} {a1 : Int32} {a2 : Int32} {a3 : Int32} {r : RX} (h : f_X11_ban S a1 a2 a3 = some r) : ∀ l, kMx l yX11_ban cX11_ban 9 (some .int) rm_X11_ban g [.ref (q 0), .int a1, .int a2, .int a3] (cx g q (rc g q rg :: D) S) (pW g q rg D r) 1 5 := by
  refine k_openx_i (own := "MarkChains") (by decide) rfl (Nat.le_of_ble_eq_true rfl) (fun X C hR => ?_)
  refine (?_ : jJ X g r (cx g q (rc g q rg :: D) S) 0 0 0 [(0, .ref (q 0)), (1, .int a1), (2, .int a2), (3, .int a3)] [] (f_X11_ban S a1 a2 a3)) h
  unfold f_X11_ban
  refine r_aload_n (pc := 0) C dX11_ban_0 0 rfl ?_
  refine xg_x_book (pc := 1) C kw_2_75 dX11_ban_1 ?_
  refine xgN_bk_athletes (pc := 4) C knf_16 dX11_ban_4 ?_
  refine r_iload_n (pc := 7) C dX11_ban_7 1 rfl ?_
  refine r_cVpz (As := [.int a1]) (st := []) (pc := 8) C (fun _ h => c_X8_has_pa h) kY_X8_has kw_3_46 kw_3_47 kw_4_58 rfl ⟨Nat.le_of_ble_eq_true rfl, Nat.le_of_ble_eq_true rfl⟩ rfl rfl ⟨Nat.zero_le _, Nat.zero_le _⟩ 10 rfl rfl rfl (Nat.le_of_ble_eq_true rfl) dX11_ban_8 (fun x1 => ?_)
  refine r_ifb_eq 19 (pc := 11) C dX11_ban_11 (by decide) ?_ ?_
  · refine r_iconst (pc := 19) C dX11_ban_19 (v := (-1)) (by decide) ?_
    refine r_widen (a' := 1) (b' := 5) (Nat.zero_le _) (Nat.zero_le _) ?_
    exact r_retX (Φ := pW g q rg D) hR ⟨rfl, rfl⟩ (pc := 20) dX11_ban_20
  · refine r_iload_n (pc := 14) C dX11_ban_14 2 rfl ?_
    refine r_iload_n (pc := 15) C dX11_ban_15 3 rfl ?_
    refine r_icmp_le 21 (pc := 16) C dX11_ban_16 (by decide) ?_ ?_
    · refine r_lconst (pc := 21) C dX11_ban_21 (v := 0) (by decide) ?_
      refine r_lstore (pc := 22) C dX11_ban_22 (lv' := [(0, .ref (q 0)), (1, .int a1), (2, .int a2), (3, .int a3), (4, .long 0)]) (by decide) [1, 2, 3, 4, 0] rfl ?_
      refine r_iconst (pc := 24) C dX11_ban_24 (v := 0) (by decide) ?_
      refine r_istore (pc := 25) C dX11_ban_25 (lv' := [(0, .ref (q 0)), (1, .int a1), (2, .int a2), (3, .int a3), (4, .long 0), (6, .int 0)]) (by decide) [1, 2, 3, 4, 5, 0] rfl ?_
      refine r_iconst (pc := 27) C dX11_ban_27 (v := 0) (by decide) ?_
      refine r_istore (pc := 28) C dX11_ban_28 (lv' := [(0, .ref (q 0)), (1, .int a1), (2, .int a2), (3, .int a3), (4, .long 0), (6, .int 0), (7, .int 0)]) (by decide) [1, 2, 3, 4, 5, 6, 0] rfl ?_
      refine l_X11_ban_30 C  a1 a2 a3 _ (fun S22 x23 x24 => ?_) FU S 0 0 0
      refine r_aload_n (pc := 126) C dX11_ban_126 0 rfl ?_
      refine xg_x_deeds (pc := 127) C kw_2_79 dX11_ban_127 ?_
      refine r_new (pc := 130) (ci := 2) (fs := [.int 0, .int 0, .int 0, .long 0, .null]) C kin_X2 tyX2 tyX2_ok kw_3_92 kw_3_93 kw_1_19 rfl k_fs2 ⟨Nat.le_of_ble_eq_true rfl, Nat.le_of_ble_eq_true rfl⟩ dX11_ban_130 (fun ad25 => ?_)
      refine r_perm (ws' := cx g q (rc g q rg :: dz ad25 :: D) S22) k_pnew ?_
      refine r_dup (pc := 133) C dX11_ban_133 rfl ?_
      refine r_iconst (pc := 134) C dX11_ban_134 (v := 4) (by decide) ?_
      refine r_iconst (pc := 135) C dX11_ban_135 (v := (-1)) (by decide) ?_
      refine r_iconst (pc := 136) C dX11_ban_136 (v := (-1)) (by decide) ?_
      refine r_lload (pc := 137) C dX11_ban_137 1 rfl ?_
      refine r_null (pc := 139) C dX11_ban_139 ?_
      refine r_cI0 (w1 := cx g q (rc g q rg :: dc ad25 4 (-1) (-1) x23 none :: D) S22) (As := [.int 4, .int (-1), .int (-1), .long x23, .null]) (st := [.ref ad25, .ref (q 34)]) (pc := 140) C c_X2_initN kY_X2_init kw_3_95 rfl kw_3_94 rfl ⟨Nat.le_of_ble_eq_true rfl, Nat.le_of_ble_eq_true rfl⟩ rfl rfl ⟨Nat.le_of_ble_eq_true rfl, Nat.le_of_ble_eq_true rfl⟩ rfl (Nat.le_of_ble_eq_true rfl) dX11_ban_140 ?_
      refine r_callV (α := CS) (ov := fun _ => none) (wv := fun S26 => cx g q (rc g q (va_up rg (S22.1 19).toNatClampNeg (some ad25)) :: dc ad25 4 (-1) (-1) x23 none :: D) S26) (mc := 0) (ms := 0) (As := [.ref ad25]) (st := []) (pc := 143) C (fun _ h => c_X3_add h) kY_X3_add kw_3_121 kw_3_122 kw_3_120 rfl ⟨Nat.le_of_ble_eq_true rfl, Nat.le_of_ble_eq_true rfl⟩ rfl rfl ⟨Nat.le_of_ble_eq_true rfl, Nat.le_of_ble_eq_true rfl⟩ 34 rfl rfl rfl (Nat.le_of_ble_eq_true rfl) dX11_ban_143 (fun S26 => ?_)
      refine r_iload (pc := 146) C dX11_ban_146 2 rfl ?_
      exact r_retX (Φ := pW g q rg D) hR ⟨rfl, ad25, rfl⟩ (pc := 148) dX11_ban_148
    · refine r_iconst (pc := 19) C dX11_ban_19 (v := (-1)) (by decide) ?_
      refine r_widen (a' := 1) (b' := 5) (Nat.zero_le _) (Nat.zero_le _) ?_
      exact r_retX (Φ := pW g q rg D) hR ⟨rfl, rfl⟩ (pc := 20) dX11_ban_20
set_option maxRecDepth 100000 in
theorem v_X11_ban_30 {S0 : CS} {ok : RX → Prop} {c1 : Int32} {c2 : Int32} {c3 : Int32} {k8 : CS → Int64 → Int32 → Option (RX)} (hk9 : ∀ (S19 : CS) (x20 : Int64) (x21 : Int32), (i1 S0) S19 → jh ok (k8 S19 x20 x21)) : ∀ (n : Nat) (S5 : CS) (x2 : Int64) (x3 : Int32) (x4 : Int32), (i1 S0) S5 → jh ok (L_X11_ban_30 c1 c2 c3 k8 n S5 x2 x3 x4) := by
  refine h_lo4 (P := i1 S0) (fun S5 x2 x3 x4 => S5) (fun rec6 ih7 S5 x2 x3 x4 hS5 => ?_)
  refine h_ite ?_ ?_
  · exact hk9 S5 x2 x3 hS5
  · refine h_chk ?_
    refine h_lt (fun x10 => ?_)
    refine h_chk ?_
    refine h_ite ?_ ?_
    · refine h_chk ?_
      refine h_ite ?_ ?_
      · refine h_ite ?_ ?_
        · refine h_lt (fun x13 => ?_)
          exact ih7 S5 x2 x3 x13 hS5
        · refine h_ite ?_ ?_
          · refine h_lt (fun x14 => ?_)
            exact ih7 S5 x2 x3 x14 hS5
          · refine h_chk (h_ltS (i1_ca hS5) (fun S15 hS15 => ?_))
            refine h_lt (fun x16 => ?_)
            refine h_lt (fun x17 => ?_)
            refine h_lt (fun x18 => ?_)
            exact ih7 S15 x16 x17 x18 hS15
      · refine h_lt (fun x12 => ?_)
        exact ih7 S5 x2 x3 x12 hS5
    · refine h_lt (fun x11 => ?_)
      exact ih7 S5 x2 x3 x11 hS5
set_option maxRecDepth 100000 in
theorem w_X11_ban {S : CS} {a1 : Int32} {a2 : Int32} {a3 : Int32} {r : RX} (h : f_X11_ban S a1 a2 a3 = some r) : okR S r := by
  have hS : i1 S S := i1_rf
  refine (?_ : jh (okR S) (f_X11_ban S a1 a2 a3)) _ h
  unfold f_X11_ban
  refine h_bp (fun x1 => ?_)
  refine h_ite ?_ ?_
  · refine h_ite ?_ ?_
    · refine v_X11_ban_30 (fun S22 x23 x24 hS22 => ?_) FU S 0 0 0 hS
      have hE := hS22.1
      refine h_bpS (fun _ h => i2_add hS22 h) (fun S26 hS26 => ?_)
      exact h_some ⟨hE, hS26⟩
    · exact h_some hS
  · exact h_some hS
abbrev rm_X11_paper : Room := { frames := 2, cells := 1, slots := 5, locals := 46 }
theorem kY_X11_paper : kY yX11_paper cX11_paper 3 (some .int) 2 := ⟨kw_1_1, kw_4_78, by decide, by decide, by decide +kernel⟩
def f_X11_paper (S : CS) (a1 : Int32) (a2 : Int32) : Option RX :=
  bp (f_X1_hasMark S a1) (fun x1 =>
  (if x1 = true then
  (if a2 < 0 then
  some ((-1), S, none)
 else
  (if a2 ≤ 63 then
  chk a1 60 (
  bp (f_X3_add S) (fun S3 =>
  chk a1 60 (
  chk a1 60 (lt (ca S3 21 (upd (S3.2.1 21) a1.toNatClampNeg ((S3.2.1 21 a1.toNatClampNeg) ||| a2))) fun S4 =>
  chk a1 60 (
  some (S4.2.1 21 a1.toNatClampNeg, S4, some ((S.1 19), 5, a1, S.2.1 21 a1.toNatClampNeg, (0 : Int64))))))))
 else
  some ((-1), S, none)))
 else
  some ((-1), S, none)))
set_option maxRecDepth 100000 in
set_option maxHeartbeats 4000000 in
theorem c_X11_paper {g : KG} {q : Nat → Nat} {rg : Nat → Option Nat} {D : va_W} {S : CS} {a1 : Int32} {a2 : Int32} {r : RX} (h : f_X11_paper S a1 a2 = some r) : ∀ l, kMx l yX11_paper cX11_paper 3 (some .int) rm_X11_paper g [.ref (q 0), .int a1, .int a2] (cx g q (rc g q rg :: D) S) (pW g q rg D r) 1 5 := by
  refine k_openx_i (own := "MarkChains") (by decide) rfl (Nat.le_of_ble_eq_true rfl) (fun X C hR => ?_)
  refine (?_ : jJ X g r (cx g q (rc g q rg :: D) S) 0 0 0 [(0, .ref (q 0)), (1, .int a1), (2, .int a2)] [] (f_X11_paper S a1 a2)) h
  unfold f_X11_paper
  refine r_aload_n (pc := 0) C dX11_paper_0 0 rfl ?_
  refine xg_x_book (pc := 1) C kw_2_75 dX11_paper_1 ?_
  refine r_iload_n (pc := 4) C dX11_paper_4 1 rfl ?_
  refine r_cVpz (As := [.int a1]) (st := []) (pc := 5) C (fun _ h => c_X1_hasMark h) kY_X1_hasMark kw_4_44 kw_4_45 kw_4_43 rfl ⟨Nat.le_of_ble_eq_true rfl, Nat.le_of_ble_eq_true rfl⟩ rfl rfl ⟨Nat.zero_le _, Nat.zero_le _⟩ 3 rfl rfl rfl (Nat.le_of_ble_eq_true rfl) dX11_paper_5 (fun x1 => ?_)
  refine r_ifb_eq 21 (pc := 8) C dX11_paper_8 (by decide) ?_ ?_
  · refine r_iconst (pc := 21) C dX11_paper_21 (v := (-1)) (by decide) ?_
    refine r_widen (a' := 1) (b' := 5) (Nat.zero_le _) (Nat.zero_le _) ?_
    exact r_retX (Φ := pW g q rg D) hR ⟨rfl, rfl⟩ (pc := 22) dX11_paper_22
  · refine r_iload_n (pc := 11) C dX11_paper_11 2 rfl ?_
    refine r_if_lt 21 (pc := 12) C dX11_paper_12 (by decide) ?_ ?_
    · refine r_iconst (pc := 21) C dX11_paper_21 (v := (-1)) (by decide) ?_
      refine r_widen (a' := 1) (b' := 5) (Nat.zero_le _) (Nat.zero_le _) ?_
      exact r_retX (Φ := pW g q rg D) hR ⟨rfl, rfl⟩ (pc := 22) dX11_paper_22
    · refine r_iload_n (pc := 15) C dX11_paper_15 2 rfl ?_
      refine r_bipush (pc := 16) C dX11_paper_16 (v := 63) (by decide) ?_
      refine r_icmp_le 23 (pc := 18) C dX11_paper_18 (by decide) ?_ ?_
      · refine r_aload_n (pc := 23) C dX11_paper_23 0 rfl ?_
        refine xg_x_deeds (pc := 24) C kw_2_79 dX11_paper_24 ?_
        refine r_new (pc := 27) (ci := 2) (fs := [.int 0, .int 0, .int 0, .long 0, .null]) C kin_X2 tyX2 tyX2_ok kw_3_92 kw_3_93 kw_1_19 rfl k_fs2 ⟨Nat.le_of_ble_eq_true rfl, Nat.le_of_ble_eq_true rfl⟩ dX11_paper_27 (fun ad2 => ?_)
        refine r_perm (ws' := cx g q (rc g q rg :: dz ad2 :: D) S) k_pnew ?_
        refine r_dup (pc := 30) C dX11_paper_30 rfl ?_
        refine r_iconst (pc := 31) C dX11_paper_31 (v := 5) (by decide) ?_
        refine r_iload_n (pc := 32) C dX11_paper_32 1 rfl ?_
        refine r_aload_n (pc := 33) C dX11_paper_33 0 rfl ?_
        refine xg_x_book (pc := 34) C kw_2_75 dX11_paper_34 ?_
        refine xgN_bk_papers (pc := 37) C knf_25 dX11_paper_37 ?_
        refine r_iload_n (pc := 40) C dX11_paper_40 1 rfl ?_
        refine xl_bk_papers (pc := 41) C dX11_paper_41 ?_
        refine r_lconst (pc := 42) C dX11_paper_42 (v := 0) (by decide) ?_
        refine r_null (pc := 43) C dX11_paper_43 ?_
        refine r_cI0 (w1 := cx g q (rc g q rg :: dc ad2 5 a1 (S.2.1 21 a1.toNatClampNeg) (0 : Int64) none :: D) S) (As := [.int 5, .int a1, .int (S.2.1 21 a1.toNatClampNeg), .long 0, .null]) (st := [.ref ad2, .ref (q 34)]) (pc := 44) C c_X2_initN kY_X2_init kw_3_95 rfl kw_3_94 rfl ⟨Nat.le_of_ble_eq_true rfl, Nat.le_of_ble_eq_true rfl⟩ rfl rfl ⟨Nat.le_of_ble_eq_true rfl, Nat.le_of_ble_eq_true rfl⟩ rfl (Nat.le_of_ble_eq_true rfl) dX11_paper_44 ?_
        refine r_callV (α := CS) (ov := fun _ => none) (wv := fun S3 => cx g q (rc g q (va_up rg (S.1 19).toNatClampNeg (some ad2)) :: dc ad2 5 a1 (S.2.1 21 a1.toNatClampNeg) (0 : Int64) none :: D) S3) (mc := 0) (ms := 0) (As := [.ref ad2]) (st := []) (pc := 47) C (fun _ h => c_X3_add h) kY_X3_add kw_3_121 kw_3_122 kw_3_120 rfl ⟨Nat.le_of_ble_eq_true rfl, Nat.le_of_ble_eq_true rfl⟩ rfl rfl ⟨Nat.le_of_ble_eq_true rfl, Nat.le_of_ble_eq_true rfl⟩ 34 rfl rfl rfl (Nat.le_of_ble_eq_true rfl) dX11_paper_47 (fun S3 => ?_)
        refine r_aload_n (pc := 50) C dX11_paper_50 0 rfl ?_
        refine xg_x_book (pc := 51) C kw_2_75 dX11_paper_51 ?_
        refine xgN_bk_papers (pc := 54) C knf_25 dX11_paper_54 ?_
        refine r_iload_n (pc := 57) C dX11_paper_57 1 rfl ?_
        refine r_dup2 (pc := 58) C dX11_paper_58 rfl rfl ?_
        refine xl_bk_papers (pc := 59) C dX11_paper_59 ?_
        refine r_iload_n (pc := 60) C dX11_paper_60 2 rfl ?_
        refine r_ior (pc := 61) C dX11_paper_61 ?_
        refine xs_bk_papers (pc := 62) C dX11_paper_62 (fun S4 => ?_)
        refine r_aload_n (pc := 63) C dX11_paper_63 0 rfl ?_
        refine xg_x_book (pc := 64) C kw_2_75 dX11_paper_64 ?_
        refine xgN_bk_papers (pc := 67) C knf_25 dX11_paper_67 ?_
        refine r_iload_n (pc := 70) C dX11_paper_70 1 rfl ?_
        refine xl_bk_papers (pc := 71) C dX11_paper_71 ?_
        exact r_retX (Φ := pW g q rg D) hR ⟨rfl, ad2, rfl⟩ (pc := 72) dX11_paper_72
      · refine r_iconst (pc := 21) C dX11_paper_21 (v := (-1)) (by decide) ?_
        refine r_widen (a' := 1) (b' := 5) (Nat.zero_le _) (Nat.zero_le _) ?_
        exact r_retX (Φ := pW g q rg D) hR ⟨rfl, rfl⟩ (pc := 22) dX11_paper_22
set_option maxRecDepth 100000 in
theorem w_X11_paper {S : CS} {a1 : Int32} {a2 : Int32} {r : RX} (h : f_X11_paper S a1 a2 = some r) : okR S r := by
  have hS : i1 S S := i1_rf
  refine (?_ : jh (okR S) (f_X11_paper S a1 a2)) _ h
  unfold f_X11_paper
  refine h_bp (fun x1 => ?_)
  refine h_ite ?_ ?_
  · refine h_ite ?_ ?_
    · exact h_some hS
    · refine h_ite ?_ ?_
      · refine h_chk ?_
        have hE := hS.1
        refine h_bpS (fun _ h => i2_add hS h) (fun S3 hS3 => ?_)
        refine h_chk ?_
        refine h_chk (h_ltS (i2_ca hS3) (fun S4 hS4 => ?_))
        refine h_chk ?_
        exact h_some ⟨hE, hS4⟩
      · exact h_some hS
  · exact h_some hS
abbrev rm_X11_days : Room := { frames := 2, cells := 1, slots := 5, locals := 46 }
theorem kY_X11_days : kY yX11_days cX11_days 2 (some .int) 1 := ⟨kw_1_1, kw_4_82, by decide, by decide, by decide +kernel⟩
def f_X11_days (S : CS) (a1 : Int32) : Option RX :=
  (if a1 < 1 then
  some ((-1), S, none)
 else
  (if a1 ≤ 20000 then
  bp (f_X3_add S) (fun S2 =>
  lt (ci S2 0 ((if 20000 < ((S2.1 0) + a1) then 20000 else ((S2.1 0) + a1)))) fun S3 =>
  some (S3.1 0, S3, some ((S.1 19), 6, (-1), S.1 0, (0 : Int64))))
 else
  some ((-1), S, none)))
set_option maxRecDepth 100000 in
set_option maxHeartbeats 4000000 in
theorem c_X11_days {g : KG} {q : Nat → Nat} {rg : Nat → Option Nat} {D : va_W} {S : CS} {a1 : Int32} {r : RX} (h : f_X11_days S a1 = some r) : ∀ l, kMx l yX11_days cX11_days 2 (some .int) rm_X11_days g [.ref (q 0), .int a1] (cx g q (rc g q rg :: D) S) (pW g q rg D r) 1 5 := by
  refine k_openx_i (own := "MarkChains") (by decide) rfl (Nat.le_of_ble_eq_true rfl) (fun X C hR => ?_)
  refine (?_ : jJ X g r (cx g q (rc g q rg :: D) S) 0 0 0 [(0, .ref (q 0)), (1, .int a1)] [] (f_X11_days S a1)) h
  unfold f_X11_days
  refine r_iload_n (pc := 0) C dX11_days_0 1 rfl ?_
  refine r_iconst (pc := 1) C dX11_days_1 (v := 1) (by decide) ?_
  refine r_icmp_lt 12 (pc := 2) C dX11_days_2 (by decide) ?_ ?_
  · refine r_iconst (pc := 12) C dX11_days_12 (v := (-1)) (by decide) ?_
    refine r_widen (a' := 1) (b' := 5) (Nat.zero_le _) (Nat.zero_le _) ?_
    exact r_retX (Φ := pW g q rg D) hR ⟨rfl, rfl⟩ (pc := 13) dX11_days_13
  · refine r_iload_n (pc := 5) C dX11_days_5 1 rfl ?_
    refine r_sipush (pc := 6) C dX11_days_6 (v := 20000) (by decide) ?_
    refine r_icmp_le 14 (pc := 9) C dX11_days_9 (by decide) ?_ ?_
    · refine r_aload_n (pc := 14) C dX11_days_14 0 rfl ?_
      refine xg_x_deeds (pc := 15) C kw_2_79 dX11_days_15 ?_
      refine r_new (pc := 18) (ci := 2) (fs := [.int 0, .int 0, .int 0, .long 0, .null]) C kin_X2 tyX2 tyX2_ok kw_3_92 kw_3_93 kw_1_19 rfl k_fs2 ⟨Nat.le_of_ble_eq_true rfl, Nat.le_of_ble_eq_true rfl⟩ dX11_days_18 (fun ad1 => ?_)
      refine r_perm (ws' := cx g q (rc g q rg :: dz ad1 :: D) S) k_pnew ?_
      refine r_dup (pc := 21) C dX11_days_21 rfl ?_
      refine r_bipush (pc := 22) C dX11_days_22 (v := 6) (by decide) ?_
      refine r_iconst (pc := 24) C dX11_days_24 (v := (-1)) (by decide) ?_
      refine r_aload_n (pc := 25) C dX11_days_25 0 rfl ?_
      refine xg_x_today (pc := 26) C kw_2_86 dX11_days_26 ?_
      refine r_lconst (pc := 29) C dX11_days_29 (v := 0) (by decide) ?_
      refine r_null (pc := 30) C dX11_days_30 ?_
      refine r_cI0 (w1 := cx g q (rc g q rg :: dc ad1 6 (-1) (S.1 0) (0 : Int64) none :: D) S) (As := [.int 6, .int (-1), .int (S.1 0), .long 0, .null]) (st := [.ref ad1, .ref (q 34)]) (pc := 31) C c_X2_initN kY_X2_init kw_3_95 rfl kw_3_94 rfl ⟨Nat.le_of_ble_eq_true rfl, Nat.le_of_ble_eq_true rfl⟩ rfl rfl ⟨Nat.le_of_ble_eq_true rfl, Nat.le_of_ble_eq_true rfl⟩ rfl (Nat.le_of_ble_eq_true rfl) dX11_days_31 ?_
      refine r_callV (α := CS) (ov := fun _ => none) (wv := fun S2 => cx g q (rc g q (va_up rg (S.1 19).toNatClampNeg (some ad1)) :: dc ad1 6 (-1) (S.1 0) (0 : Int64) none :: D) S2) (mc := 0) (ms := 0) (As := [.ref ad1]) (st := []) (pc := 34) C (fun _ h => c_X3_add h) kY_X3_add kw_3_121 kw_3_122 kw_3_120 rfl ⟨Nat.le_of_ble_eq_true rfl, Nat.le_of_ble_eq_true rfl⟩ rfl rfl ⟨Nat.le_of_ble_eq_true rfl, Nat.le_of_ble_eq_true rfl⟩ 34 rfl rfl rfl (Nat.le_of_ble_eq_true rfl) dX11_days_34 (fun S2 => ?_)
      refine r_aload_n (pc := 37) C dX11_days_37 0 rfl ?_
      refine r_aload_n (pc := 38) C dX11_days_38 0 rfl ?_
      refine xg_x_today (pc := 39) C kw_2_86 dX11_days_39 ?_
      refine r_iload_n (pc := 42) C dX11_days_42 1 rfl ?_
      refine r_iadd (pc := 43) C dX11_days_43 ?_
      refine r_sipush (pc := 44) C dX11_days_44 (v := 20000) (by decide) ?_
      refine r_mmin (st := [.ref (q 0)]) (pc := 47) C kw_4_83 (Nat.le_of_ble_eq_true rfl) (Nat.le_of_ble_eq_true rfl) ⟨Nat.le_of_ble_eq_true rfl, Nat.le_of_ble_eq_true rfl⟩ dX11_days_47 ?_
      refine xp_x_today (pc := 50) C kw_2_86 dX11_days_50 (fun S3 => ?_)
      refine r_aload_n (pc := 53) C dX11_days_53 0 rfl ?_
      refine xg_x_today (pc := 54) C kw_2_86 dX11_days_54 ?_
      exact r_retX (Φ := pW g q rg D) hR ⟨rfl, ad1, rfl⟩ (pc := 57) dX11_days_57
    · refine r_iconst (pc := 12) C dX11_days_12 (v := (-1)) (by decide) ?_
      refine r_widen (a' := 1) (b' := 5) (Nat.zero_le _) (Nat.zero_le _) ?_
      exact r_retX (Φ := pW g q rg D) hR ⟨rfl, rfl⟩ (pc := 13) dX11_days_13
set_option maxRecDepth 100000 in
theorem w_X11_days {S : CS} {a1 : Int32} {r : RX} (h : f_X11_days S a1 = some r) : okR S r := by
  have hS : i1 S S := i1_rf
  refine (?_ : jh (okR S) (f_X11_days S a1)) _ h
  unfold f_X11_days
  refine h_ite ?_ ?_
  · exact h_some hS
  · refine h_ite ?_ ?_
    · have hE := hS.1
      refine h_bpS (fun _ h => i2_add hS h) (fun S2 hS2 => ?_)
      refine h_ltS (i2_ci hS2 (by decide) (by decide)) (fun S3 hS3 => ?_)
      exact h_some ⟨hE, hS3⟩
    · exact h_some hS
abbrev rm_X11_text : Room := { frames := 6, cells := 1, slots := 5, locals := 137 }
theorem kY_X11_text : kY yX11_text cX11_text 4 (some .int) 0 := ⟨kw_1_1, kw_2_129, by decide, by decide, by decide +kernel⟩
def f_X11_text (S : CS) : Option RX :=
  bp (f_X1_packedSizes S) (fun x1 =>
  bp (f_X10_beginReading S) (fun S2 =>
  bw (f_X6_readItems S2 (S2.1 0)) (fun x3 S4 =>
  lt (ci S4 1 0) fun S5 =>
  (if x3 = (-1) then
  bp (f_X1_cutToSizes S5 x1) (fun S8 =>
  some ((-1), S8, none))
 else
  bp (f_X3_add S5) (fun S7 =>
  some (x3, S7, some ((S5.1 19), 0, (-1), (-1), x1)))))))
set_option maxRecDepth 100000 in
set_option maxHeartbeats 4000000 in
theorem c_X11_text {g : KG} {q : Nat → Nat} {rg : Nat → Option Nat} {D : va_W} {S : CS}  {r : RX} (h : f_X11_text S = some r) : ∀ l, kMx l yX11_text cX11_text 4 (some .int) rm_X11_text g [.ref (q 0)] (cx g q (rc g q rg :: D) S) (pW g q rg D r) 1 5 := by
  refine k_openx_i (own := "MarkChains") (by decide) rfl (Nat.le_of_ble_eq_true rfl) (fun X C hR => ?_)
  refine (?_ : jJ X g r (cx g q (rc g q rg :: D) S) 0 0 0 [(0, .ref (q 0))] [] (f_X11_text S)) h
  unfold f_X11_text
  refine r_aload_n (pc := 0) C dX11_text_0 0 rfl ?_
  refine xg_x_book (pc := 1) C kw_2_75 dX11_text_1 ?_
  refine r_cVpl (As := []) (st := []) (pc := 4) C (fun _ h => c_X1_packedSizes h) kY_X1_packedSizes kw_2_131 kw_2_132 kw_2_130 rfl ⟨Nat.le_of_ble_eq_true rfl, Nat.le_of_ble_eq_true rfl⟩ rfl rfl ⟨Nat.zero_le _, Nat.zero_le _⟩ 3 rfl rfl rfl (Nat.le_of_ble_eq_true rfl) dX11_text_4 (fun x1 => ?_)
  refine r_lstore_n (pc := 7) C dX11_text_7 (lv' := [(0, .ref (q 0)), (1, .long x1)]) (by decide) [1, 0] rfl ?_
  refine r_aload_n (pc := 8) C dX11_text_8 0 rfl ?_
  refine xg_x_tape (pc := 9) C kw_2_74 dX11_text_9 ?_
  refine r_cVwv (As := []) (st := []) (wf := cx g q (rc g q rg :: D)) (pc := 12) C (fun _ h => c_X10_beginReading h) kY_X10_beginReading kw_2_135 kw_2_136 kw_2_134 rfl ⟨Nat.le_of_ble_eq_true rfl, Nat.le_of_ble_eq_true rfl⟩ rfl rfl ⟨Nat.zero_le _, Nat.zero_le _⟩ 1 rfl rfl rfl (Nat.le_of_ble_eq_true rfl) dX11_text_12 (fun S2 => ?_)
  refine r_aload_n (pc := 15) C dX11_text_15 0 rfl ?_
  refine xg_x_itemReader (pc := 16) C kw_2_76 dX11_text_16 ?_
  refine r_aload_n (pc := 19) C dX11_text_19 0 rfl ?_
  refine xg_x_today (pc := 20) C kw_2_86 dX11_text_20 ?_
  refine r_cVwi (As := [.int (S2.1 0)]) (st := []) (wf := cx g q (rc g q rg :: D)) (pc := 23) C (fun _ _ h => c_X6_readItems h) kY_X6_readItems kw_2_139 kw_2_140 kw_2_138 rfl ⟨Nat.le_of_ble_eq_true rfl, Nat.le_of_ble_eq_true rfl⟩ rfl rfl ⟨Nat.zero_le _, Nat.zero_le _⟩ 25 rfl rfl rfl (Nat.le_of_ble_eq_true rfl) dX11_text_23 (fun x3 S4 => ?_)
  refine r_istore_n (pc := 26) C dX11_text_26 (lv' := [(0, .ref (q 0)), (1, .long x1), (3, .int x3)]) (by decide) [1, 2, 0] rfl ?_
  refine r_aload_n (pc := 27) C dX11_text_27 0 rfl ?_
  refine xg_x_tape (pc := 28) C kw_2_74 dX11_text_28 ?_
  refine r_iconst (pc := 31) C dX11_text_31 (v := 0) (by decide) ?_
  refine xpN_tp_length (pc := 32) C knf_0 dX11_text_32 (fun S5 => ?_)
  refine r_iload_n (pc := 35) C dX11_text_35 2 rfl ?_
  refine r_iconst (pc := 36) C dX11_text_36 (v := (-1)) (by decide) ?_
  refine r_icmp_ne 50 (pc := 37) C dX11_text_37 (by decide) ?_ ?_
  · refine r_aload_n (pc := 50) C dX11_text_50 0 rfl ?_
    refine xg_x_deeds (pc := 51) C kw_2_79 dX11_text_51 ?_
    refine r_new (pc := 54) (ci := 2) (fs := [.int 0, .int 0, .int 0, .long 0, .null]) C kin_X2 tyX2 tyX2_ok kw_3_92 kw_3_93 kw_1_19 rfl k_fs2 ⟨Nat.le_of_ble_eq_true rfl, Nat.le_of_ble_eq_true rfl⟩ dX11_text_54 (fun ad6 => ?_)
    refine r_perm (ws' := cx g q (rc g q rg :: dz ad6 :: D) S5) k_pnew ?_
    refine r_dup (pc := 57) C dX11_text_57 rfl ?_
    refine r_iconst (pc := 58) C dX11_text_58 (v := 0) (by decide) ?_
    refine r_iconst (pc := 59) C dX11_text_59 (v := (-1)) (by decide) ?_
    refine r_iconst (pc := 60) C dX11_text_60 (v := (-1)) (by decide) ?_
    refine r_lload_n (pc := 61) C dX11_text_61 1 rfl ?_
    refine r_null (pc := 62) C dX11_text_62 ?_
    refine r_cI0 (w1 := cx g q (rc g q rg :: dc ad6 0 (-1) (-1) x1 none :: D) S5) (As := [.int 0, .int (-1), .int (-1), .long x1, .null]) (st := [.ref ad6, .ref (q 34)]) (pc := 63) C c_X2_initN kY_X2_init kw_3_95 rfl kw_3_94 rfl ⟨Nat.le_of_ble_eq_true rfl, Nat.le_of_ble_eq_true rfl⟩ rfl rfl ⟨Nat.le_of_ble_eq_true rfl, Nat.le_of_ble_eq_true rfl⟩ rfl (Nat.le_of_ble_eq_true rfl) dX11_text_63 ?_
    refine r_callV (α := CS) (ov := fun _ => none) (wv := fun S7 => cx g q (rc g q (va_up rg (S5.1 19).toNatClampNeg (some ad6)) :: dc ad6 0 (-1) (-1) x1 none :: D) S7) (mc := 0) (ms := 0) (As := [.ref ad6]) (st := []) (pc := 66) C (fun _ h => c_X3_add h) kY_X3_add kw_3_121 kw_3_122 kw_3_120 rfl ⟨Nat.le_of_ble_eq_true rfl, Nat.le_of_ble_eq_true rfl⟩ rfl rfl ⟨Nat.le_of_ble_eq_true rfl, Nat.le_of_ble_eq_true rfl⟩ 34 rfl rfl rfl (Nat.le_of_ble_eq_true rfl) dX11_text_66 (fun S7 => ?_)
    refine r_iload_n (pc := 69) C dX11_text_69 2 rfl ?_
    exact r_retX (Φ := pW g q rg D) hR ⟨rfl, ad6, rfl⟩ (pc := 70) dX11_text_70
  · refine r_aload_n (pc := 40) C dX11_text_40 0 rfl ?_
    refine xg_x_book (pc := 41) C kw_2_75 dX11_text_41 ?_
    refine r_lload_n (pc := 44) C dX11_text_44 1 rfl ?_
    refine r_cVwv (As := [.long x1]) (st := []) (wf := cx g q (rc g q rg :: D)) (pc := 45) C (fun _ h => c_X1_cutToSizes h) kY_X1_cutToSizes kw_3_87 kw_3_88 kw_3_86 rfl ⟨Nat.le_of_ble_eq_true rfl, Nat.le_of_ble_eq_true rfl⟩ rfl rfl ⟨Nat.zero_le _, Nat.zero_le _⟩ 3 rfl rfl rfl (Nat.le_of_ble_eq_true rfl) dX11_text_45 (fun S8 => ?_)
    refine r_iconst (pc := 48) C dX11_text_48 (v := (-1)) (by decide) ?_
    refine r_widen (a' := 1) (b' := 5) (Nat.zero_le _) (Nat.zero_le _) ?_
    exact r_retX (Φ := pW g q rg D) hR ⟨rfl, rfl⟩ (pc := 49) dX11_text_49
set_option maxRecDepth 100000 in
theorem w_X11_text {S : CS}  {r : RX} (h : f_X11_text S = some r) : okR S r := by
  have hS : i1 S S := i1_rf
  refine (?_ : jh (okR S) (f_X11_text S)) _ h
  unfold f_X11_text
  refine h_bp (fun x1 => ?_)
  refine h_bpS (fun _ h => i1_tr hS (w_X10_beginReading h) (by decide) (by decide)) (fun S2 hS2 => ?_)
  refine h_bwS (fun _ _ h => i1_tr hS2 (w_X6_readItems h) (by decide) (by decide)) (fun x3 S4 hS4 => ?_)
  refine h_ltS (i1_ci hS4 (by decide) (by decide)) (fun S5 hS5 => ?_)
  refine h_ite ?_ ?_
  · refine h_bpS (fun _ h => i1_tr hS5 (w_X1_cutToSizes h) (by decide) (by decide)) (fun S8 hS8 => ?_)
    exact h_some hS8
  · have hE := hS5.1
    refine h_bpS (fun _ h => i2_add hS5 h) (fun S7 hS7 => ?_)
    exact h_some ⟨hE, hS7⟩
