abbrev rm_X11_drought : Room := { frames := 5, cells := 0, slots := 0, locals := 117 }
theorem kY_X11_drought : kY yX11_drought cX11_drought 4 (some .int) 3 := ⟨kw_1_1, kw_5_199, by decide, by decide, by decide +kernel⟩
def f_X11_drought (S : CS) (a1 : Int32) (a2 : Int32) (a3 : Int32) : Option (Int32 × CS) :=
  bw (f_X11_fillChain S a1 a2 a3) (fun x1 S2 =>
  (if x1 = true then
  bp (f_X7_longestGap_l1 S2 a3) (fun x3 =>
  some (x3, S2))
 else
  some ((-2), S2)))
set_option maxRecDepth 100000 in
set_option maxHeartbeats 4000000 in
theorem c_X11_drought {g : KG} {q : Nat → Nat} {E : va_W} {S : CS} {a1 : Int32} {a2 : Int32} {a3 : Int32} {r : Int32} {S' : CS} (h : f_X11_drought S a1 a2 a3 = some (r, S')) : ∀ l, kM l yX11_drought cX11_drought 4 (some .int) rm_X11_drought g [.ref (q 0), .int a1, .int a2, .int a3] (cx g q E S) (cx g q E S') (some (.int r)) 0 0 := by
  refine k_open_i (own := "MarkChains") (by decide) rfl (Nat.le_of_ble_eq_true rfl) (fun X C hR => ?_)
  refine (?_ : jJ X g ((r, S') : Int32 × CS) (cx g q E S) 0 0 0 [(0, .ref (q 0)), (1, .int a1), (2, .int a2), (3, .int a3)] [] (f_X11_drought S a1 a2 a3)) h
  unfold f_X11_drought
  refine r_aload_n (pc := 0) C dX11_drought_0 0 rfl ?_
  refine r_iload_n (pc := 1) C dX11_drought_1 1 rfl ?_
  refine r_iload_n (pc := 2) C dX11_drought_2 2 rfl ?_
  refine r_iload_n (pc := 3) C dX11_drought_3 3 rfl ?_
  refine r_cVwz (As := [.int a1, .int a2, .int a3]) (st := []) (wf := cx g q E) (pc := 4) C (fun _ _ h => c_X11_fillChain h) kY_X11_fillChain kw_4_107 kw_0_24 kw_4_105 rfl ⟨Nat.le_of_ble_eq_true rfl, Nat.le_of_ble_eq_true rfl⟩ rfl rfl ⟨Nat.zero_le _, Nat.zero_le _⟩ 0 rfl rfl rfl (Nat.le_of_ble_eq_true rfl) dX11_drought_4 (fun x1 S2 => ?_)
  refine r_ifb_ne 13 (pc := 7) C dX11_drought_7 (by decide) ?_ ?_
  · refine r_aload_n (pc := 13) C dX11_drought_13 0 rfl ?_
    refine xg_x_line (pc := 14) C kw_2_80 dX11_drought_14 ?_
    refine r_iload_n (pc := 17) C dX11_drought_17 3 rfl ?_
    refine r_cVpi (As := [.int a3]) (st := []) (pc := 18) C (fun _ h => c_X7_longestGap_l1 h) kY_X7_longestGap kw_5_201 kw_5_202 kw_5_200 rfl ⟨Nat.le_of_ble_eq_true rfl, Nat.le_of_ble_eq_true rfl⟩ rfl rfl ⟨Nat.zero_le _, Nat.zero_le _⟩ 35 rfl rfl rfl (Nat.le_of_ble_eq_true rfl) dX11_drought_18 (fun x3 => ?_)
    exact r_retWI (wf := cx g q E) hR (pc := 21) dX11_drought_21
  · refine r_bipush (pc := 10) C dX11_drought_10 (v := (-2)) (by decide) ?_
    exact r_retWI (wf := cx g q E) hR (pc := 12) dX11_drought_12
set_option maxRecDepth 100000 in
theorem w_X11_drought {S : CS} {a1 : Int32} {a2 : Int32} {a3 : Int32} {r : Int32} {S' : CS} (h : f_X11_drought S a1 a2 a3 = some (r, S')) : gI [21] [37] S S' := by
  have hS : gI [21] [37] S S := gI_rf
  refine (?_ : jf (gI [21] [37] S) Prod.snd (f_X11_drought S a1 a2 a3)) _ h
  unfold f_X11_drought
  refine f_bwS (fun _ _ h => gI_tr hS (w_X11_fillChain h) (by decide) (by decide)) (fun x1 S2 hS2 => ?_)
  refine f_ite ?_ ?_
  · refine f_bp (fun x3 => ?_)
    exact f_some hS2
  · exact f_some hS2
abbrev rm_X9_addSign : Room := { frames := 0, cells := 0, slots := 0, locals := 0 }
theorem kY_X9_addSign : kY yX9_addSign cX9_addSign 2 none 1 := ⟨kw_1_11, kw_5_228, by decide, by decide, by decide +kernel⟩
def f_X9_addSign (S : CS) (a1 : Int32) : Option (CS) :=
  (if 400 ≤ (S.1 23) then
  some S
 else
  chk (S.1 23) 400 (lt (ca S 43 (upd (S.2.1 43) (S.1 23).toNatClampNeg a1)) fun S1 =>
  lt (ci S1 23 ((S1.1 23) + 1)) fun S2 =>
  some S2))
set_option maxRecDepth 100000 in
set_option maxHeartbeats 4000000 in
theorem c_X9_addSign {g : KG} {q : Nat → Nat} {E : va_W} {S : CS} {a1 : Int32} {S' : CS} (h : f_X9_addSign S a1 = some S') : ∀ l, kM l yX9_addSign cX9_addSign 2 none rm_X9_addSign g [.ref (q 42), .int a1] (cx g q E S) (cx g q E S') (none) 0 0 := by
  refine k_open_v (own := "MarkChains$Sheet") (by decide) rfl (Nat.le_of_ble_eq_true rfl) (fun X C hR => ?_)
  refine (?_ : jJ X g (S' : CS) (cx g q E S) 0 0 0 [(0, .ref (q 42)), (1, .int a1)] [] (f_X9_addSign S a1)) h
  unfold f_X9_addSign
  refine r_aload_n (pc := 0) C dX9_addSign_0 0 rfl ?_
  refine xg_sh_size (pc := 1) C kw_2_48 dX9_addSign_1 ?_
  refine r_sipush (pc := 4) C dX9_addSign_4 (v := 400) (by decide) ?_
  refine r_icmp_ge 30 (pc := 7) C dX9_addSign_7 (by decide) ?_ ?_
  · exact r_retWV (wf := cx g q E) hR (pc := 30) dX9_addSign_30
  · refine r_aload_n (pc := 10) C dX9_addSign_10 0 rfl ?_
    refine xg_sh_bytes (pc := 11) C kw_2_46 dX9_addSign_11 ?_
    refine r_aload_n (pc := 14) C dX9_addSign_14 0 rfl ?_
    refine xg_sh_size (pc := 15) C kw_2_48 dX9_addSign_15 ?_
    refine r_iload_n (pc := 18) C dX9_addSign_18 1 rfl ?_
    refine xs_sh_bytes (pc := 19) C dX9_addSign_19 (fun S1 => ?_)
    refine r_aload_n (pc := 20) C dX9_addSign_20 0 rfl ?_
    refine r_dup (pc := 21) C dX9_addSign_21 rfl ?_
    refine xg_sh_size (pc := 22) C kw_2_48 dX9_addSign_22 ?_
    refine r_iconst (pc := 25) C dX9_addSign_25 (v := 1) (by decide) ?_
    refine r_iadd (pc := 26) C dX9_addSign_26 ?_
    refine xp_sh_size (pc := 27) C kw_2_48 dX9_addSign_27 (fun S2 => ?_)
    exact r_retWV (wf := cx g q E) hR (pc := 30) dX9_addSign_30
set_option maxRecDepth 100000 in
theorem w_X9_addSign {S : CS} {a1 : Int32} {S' : CS} (h : f_X9_addSign S a1 = some S') : gI [23] [43] S S' := by
  have hS : gI [23] [43] S S := gI_rf
  refine (?_ : jf (gI [23] [43] S) id (f_X9_addSign S a1)) _ h
  unfold f_X9_addSign
  refine f_ite ?_ ?_
  · exact f_some hS
  · refine f_chk (f_ltS (gI_ca hS (by decide)) (fun S1 hS1 => ?_))
    refine f_ltS (gI_ci hS1 (by decide)) (fun S2 hS2 => ?_)
    exact f_some hS2
abbrev rm_X9_addNumber : Room := { frames := 1, cells := 0, slots := 0, locals := 21 }
theorem kY_X9_addNumber : kY yX9_addNumber cX9_addNumber 3 none 1 := ⟨kw_1_11, kw_5_233, by decide, by decide, by decide +kernel⟩
def L_X9_addNumber_3 (c1 : Int32) (k5 : CS → Option (CS)) : Nat → CS → Int32 → Option (CS) := lo2 fun rec3 S2 x1 =>
  (if x1 < 1 then
  k5 S2
 else
  jn1 (fun (S7 : CS) =>
  lt (x1 / 10) fun x8 =>
  rec3 S7 x8) (fun k9 =>
  jn0 (nz x1 (
  bp (f_X9_addSign S2 (48 + ((c1 / x1) - (c1 / x1) / 10 * 10))) (fun S11 =>
  k9 S11))) (fun k12 =>
  (if x1 ≤ c1 then
  k12
 else
  (if x1 = 1 then
  k12
 else
  k9 S2)))))
set_option maxRecDepth 100000 in
set_option maxHeartbeats 4000000 in
theorem l_X9_addNumber_3 {X : KX} {g : KG} {q : Nat → Nat} {E : va_W} {res : CS} (C : kC X g cX9_addNumber "MarkChains$Sheet" rm_X9_addNumber 3) (hR : ∀ (pc : Nat) (lv : List (Nat × Value)), decode cX9_addNumber pc = .ok (.return_, 1) → jW X g (cx g q E res) 0 0 pc lv []) (c1 : Int32) (k5 : CS → Option (CS)) (hk6 : ∀ (S14 : CS), jJ X g res (cx g q E S14) 0 0 39 [] [] (k5 S14)) : ∀ (n : Nat) (S2 : CS) (x1 : Int32), jJ X g res (cx g q E S2) 0 0 3 [(0, .ref (q 42)), (1, .int c1), (2, .int x1)] [] (L_X9_addNumber_3 c1 k5 n S2 x1) := by
  refine r_lo2 (fun S2 x1 => cx g q E S2) (fun S2 x1 => [(0, .ref (q 42)), (1, .int c1), (2, .int x1)]) (fun rec3 ih4 S2 x1 => ?_)
  refine r_iload_n (pc := 3) C dX9_addNumber_3 2 rfl ?_
  refine r_iconst (pc := 4) C dX9_addNumber_4 (v := 1) (by decide) ?_
  refine r_icmp_lt 39 (pc := 5) C dX9_addNumber_5 (by decide) ?_ ?_
  · refine r_sub (lv' := []) [] rfl ?_
    exact hk6 S2
  · refine r_iload_n (pc := 8) C dX9_addNumber_8 1 rfl ?_
    refine r_iload_n (pc := 9) C dX9_addNumber_9 2 rfl ?_
    refine r_jn1 31 (fun (S7 : CS) => cx g q E S7) (fun (S7 : CS) => [(0, .ref (q 42)), (1, .int c1), (2, .int x1)]) (fun (S7 : CS) => []) (fun S7 => ?_) (fun k9 hk10 => ?_)
    · refine r_iload_n (pc := 31) C dX9_addNumber_31 2 rfl ?_
      refine r_bipush (pc := 32) C dX9_addNumber_32 (v := 10) (by decide) ?_
      refine r_idiv (pc := 34) C dX9_addNumber_34 (by decide) ?_
      refine r_istoreV_n (pc := 35) C dX9_addNumber_35 (lv' := fun x8 => [(0, .ref (q 42)), (1, .int c1), (2, .int x8)]) (by decide) [1, 2, 0] (fun _ => rfl) (fun x8 => ?_)
      refine r_goto 3 (pc := 36) C dX9_addNumber_36 (by decide) ?_
      exact ih4 S7 x8
    · refine r_jn0 18 (cx g q E S2) ([(0, .ref (q 42)), (1, .int c1), (2, .int x1)]) ([]) ?_ (fun k12 hk13 => ?_)
      · refine r_aload_n (pc := 18) C dX9_addNumber_18 0 rfl ?_
        refine r_bipush (pc := 19) C dX9_addNumber_19 (v := 48) (by decide) ?_
        refine r_iload_n (pc := 21) C dX9_addNumber_21 1 rfl ?_
        refine r_iload_n (pc := 22) C dX9_addNumber_22 2 rfl ?_
        refine r_idivN (pc := 23) C dX9_addNumber_23 ?_
        refine r_bipush (pc := 24) C dX9_addNumber_24 (v := 10) (by decide) ?_
        refine r_irem (pc := 26) C dX9_addNumber_26 (by decide) ?_
        refine r_iadd (pc := 27) C dX9_addNumber_27 ?_
        refine r_cVwv (As := [.int (48 + ((c1 / x1) - (c1 / x1) / 10 * 10))]) (st := []) (wf := cx g q E) (pc := 28) C (fun _ h => c_X9_addSign h) kY_X9_addSign kw_5_226 kw_5_227 kw_5_235 rfl ⟨Nat.le_of_ble_eq_true rfl, Nat.le_of_ble_eq_true rfl⟩ rfl rfl ⟨Nat.zero_le _, Nat.zero_le _⟩ 41 rfl rfl rfl (Nat.le_of_ble_eq_true rfl) dX9_addNumber_28 (fun S11 => ?_)
        exact hk10 S11
      · refine r_icmp_ge 18 (pc := 10) C dX9_addNumber_10 (by decide) ?_ ?_
        · exact hk13
        · refine r_iload_n (pc := 13) C dX9_addNumber_13 2 rfl ?_
          refine r_iconst (pc := 14) C dX9_addNumber_14 (v := 1) (by decide) ?_
          refine r_icmp_ne 31 (pc := 15) C dX9_addNumber_15 (by decide) ?_ ?_
          · exact hk10 S2
          · exact hk13
set_option maxRecDepth 100000 in
theorem v_X9_addNumber_3 {S0 : CS} {c1 : Int32} {k5 : CS → Option (CS)} (hk6 : ∀ (S14 : CS), (gI [23] [43] S0) S14 → jf (gI [23] [43] S0) id (k5 S14)) : ∀ (n : Nat) (S2 : CS) (x1 : Int32), (gI [23] [43] S0) S2 → jf (gI [23] [43] S0) id (L_X9_addNumber_3 c1 k5 n S2 x1) := by
  refine f_lo2 (I := (gI [23] [43] S0)) (fun S2 x1 => S2) (fun rec3 ih4 S2 x1 hS2 => ?_)
  refine f_ite ?_ ?_
  · exact hk6 S2 hS2
  · refine f_jn1 (fun S7 hS7 => ?_) (fun k9 hk10 => ?_)
    · refine f_lt (fun x8 => ?_)
      exact ih4 S7 x8 hS7
    · refine f_jm0 hS2 (fun  hS2 => ?_) (fun k12 hk13 => ?_)
      · refine f_nz ?_
        refine f_bpS (fun _ h => gI_tr hS2 (w_X9_addSign h) (by decide) (by decide)) (fun S11 hS11 => ?_)
        exact hk10 S11 hS11
      · refine f_ite ?_ ?_
        · exact hk13 hS2
        · refine f_ite ?_ ?_
          · exact hk13 hS2
          · exact hk10 S2 hS2
def f_X9_addNumber (S : CS) (a1 : Int32) : Option (CS) :=
  L_X9_addNumber_3 a1 (fun S15 =>
  some S15) FU S 1000000
set_option maxRecDepth 100000 in
set_option maxHeartbeats 4000000 in
theorem c_X9_addNumber {g : KG} {q : Nat → Nat} {E : va_W} {S : CS} {a1 : Int32} {S' : CS} (h : f_X9_addNumber S a1 = some S') : ∀ l, kM l yX9_addNumber cX9_addNumber 3 none rm_X9_addNumber g [.ref (q 42), .int a1] (cx g q E S) (cx g q E S') (none) 0 0 := by
  refine k_open_v (own := "MarkChains$Sheet") (by decide) rfl (Nat.le_of_ble_eq_true rfl) (fun X C hR => ?_)
  refine (?_ : jJ X g (S' : CS) (cx g q E S) 0 0 0 [(0, .ref (q 42)), (1, .int a1)] [] (f_X9_addNumber S a1)) h
  unfold f_X9_addNumber
  refine r_ldc (pc := 0) C dX9_addNumber_0 kw_5_234 ?_
  refine r_istore_n (pc := 2) C dX9_addNumber_2 (lv' := [(0, .ref (q 42)), (1, .int a1), (2, .int 1000000)]) (by decide) [1, 2, 0] rfl ?_
  refine l_X9_addNumber_3 C hR a1 _ (fun S15 => ?_) FU S 1000000
  exact r_retWV (wf := cx g q E) hR (pc := 39) dX9_addNumber_39
set_option maxRecDepth 100000 in
theorem w_X9_addNumber {S : CS} {a1 : Int32} {S' : CS} (h : f_X9_addNumber S a1 = some S') : gI [23] [43] S S' := by
  have hS : gI [23] [43] S S := gI_rf
  refine (?_ : jf (gI [23] [43] S) id (f_X9_addNumber S a1)) _ h
  unfold f_X9_addNumber
  refine v_X9_addNumber_3 (fun S15 hS15 => ?_) FU S 1000000 hS
  exact f_some hS15
abbrev rm_X11_write : Room := { frames := 5, cells := 0, slots := 0, locals := 117 }
theorem kY_X11_write : kY yX11_write cX11_write 6 (some .int) 3 := ⟨kw_1_1, kw_5_224, by decide, by decide, by decide +kernel⟩
def L_X11_write_24 (k8 : CS → Option (Int32 × CS)) : Nat → CS → Int32 → Option (Int32 × CS) := lo2 fun rec6 S5 x4 =>
  (if (S5.1 21) ≤ x4 then
  k8 S5
 else
  chk x4 60 (
  lt (S5.2.1 37 x4.toNatClampNeg) fun x10 =>
  jn1 (fun (S11 : CS) =>
  bp (f_X7_isTie_l1 S11 x4) (fun x12 =>
  jn1 (fun (S13 : CS) =>
  chk x10 60 (
  bp (f_X9_addNumber S13 (S13.2.1 18 x10.toNatClampNeg)) (fun S14 =>
  bp (f_X9_addSign S14 47) (fun S15 =>
  chk x10 60 (
  bp (f_X9_addNumber S15 (S15.2.1 14 x10.toNatClampNeg)) (fun S16 =>
  lt (x4 + 1) fun x17 =>
  rec6 S16 x17)))))) (fun k18 =>
  (if x12 = true then
  bp (f_X9_addSign S11 61) (fun S20 =>
  k18 S20)
 else
  k18 S11)))) (fun k21 =>
  (if x4 ≤ 0 then
  k21 S5
 else
  bp (f_X9_addSign S5 32) (fun S23 =>
  k21 S23)))))
set_option maxRecDepth 100000 in
set_option maxHeartbeats 4000000 in
theorem l_X11_write_24 {X : KX} {g : KG} {q : Nat → Nat} {E : va_W} {res : Int32 × CS} (C : kC X g cX11_write "MarkChains" rm_X11_write 6) (hR : ∀ (pc : Nat) (lv : List (Nat × Value)), decode cX11_write pc = .ok (.ireturn, 1) → jW X g (cx g q E res.2) 0 0 pc lv [.int res.1]) (k8 : CS → Option (Int32 × CS)) (hk9 : ∀ (S24 : CS), jJ X g res (cx g q E S24) 0 0 132 [(0, .ref (q 0))] [] (k8 S24)) : ∀ (n : Nat) (S5 : CS) (x4 : Int32), jJ X g res (cx g q E S5) 0 0 24 [(0, .ref (q 0)), (4, .int x4)] [] (L_X11_write_24 k8 n S5 x4) := by
  refine r_lo2 (fun S5 x4 => cx g q E S5) (fun S5 x4 => [(0, .ref (q 0)), (4, .int x4)]) (fun rec6 ih7 S5 x4 => ?_)
  refine r_iload (pc := 24) C dX11_write_24 1 rfl ?_
  refine r_aload_n (pc := 26) C dX11_write_26 0 rfl ?_
  refine xg_x_line (pc := 27) C kw_2_80 dX11_write_27 ?_
  refine xgN_l1_size (pc := 30) C knf_37 dX11_write_30 ?_
  refine r_icmp_ge 132 (pc := 33) C dX11_write_33 (by decide) ?_ ?_
  · refine r_sub (lv' := [(0, .ref (q 0))]) [0] rfl ?_
    exact hk9 S5
  · refine r_aload_n (pc := 36) C dX11_write_36 0 rfl ?_
    refine xg_x_line (pc := 37) C kw_2_80 dX11_write_37 ?_
    refine xgN_l1_numbers (pc := 40) C knf_36 dX11_write_40 ?_
    refine r_iload (pc := 43) C dX11_write_43 1 rfl ?_
    refine xl_l1_numbers (pc := 45) C dX11_write_45 ?_
    refine r_istoreV (pc := 46) C dX11_write_46 (lv' := fun x10 => [(0, .ref (q 0)), (4, .int x4), (5, .int x10)]) (by decide) [1, 2, 0] (fun _ => rfl) (fun x10 => ?_)
    refine r_iload (pc := 48) C dX11_write_48 1 rfl ?_
    refine r_jn1 62 (fun (S11 : CS) => cx g q E S11) (fun (S11 : CS) => [(0, .ref (q 0)), (4, .int x4), (5, .int x10)]) (fun (S11 : CS) => []) (fun S11 => ?_) (fun k21 hk22 => ?_)
    · refine r_aload_n (pc := 62) C dX11_write_62 0 rfl ?_
      refine xg_x_line (pc := 63) C kw_2_80 dX11_write_63 ?_
      refine r_iload (pc := 66) C dX11_write_66 1 rfl ?_
      refine r_cVpz (As := [.int x4]) (st := []) (pc := 68) C (fun _ h => c_X7_isTie_l1 h) kY_X7_isTie kw_4_171 kw_4_172 kw_5_229 rfl ⟨Nat.le_of_ble_eq_true rfl, Nat.le_of_ble_eq_true rfl⟩ rfl rfl ⟨Nat.zero_le _, Nat.zero_le _⟩ 35 rfl rfl rfl (Nat.le_of_ble_eq_true rfl) dX11_write_68 (fun x12 => ?_)
      refine r_jn1 83 (fun (S13 : CS) => cx g q E S13) (fun (S13 : CS) => [(0, .ref (q 0)), (4, .int x4), (5, .int x10)]) (fun (S13 : CS) => []) (fun S13 => ?_) (fun k18 hk19 => ?_)
      · refine r_aload_n (pc := 83) C dX11_write_83 0 rfl ?_
        refine xg_x_sheet (pc := 84) C kw_2_82 dX11_write_84 ?_
        refine r_aload_n (pc := 87) C dX11_write_87 0 rfl ?_
        refine xg_x_book (pc := 88) C kw_2_75 dX11_write_88 ?_
        refine xgN_bk_value (pc := 91) C knf_24 dX11_write_91 ?_
        refine r_iload (pc := 94) C dX11_write_94 2 rfl ?_
        refine xl_bk_value (pc := 96) C dX11_write_96 ?_
        refine r_cVwv (As := [.int (S13.2.1 18 x10.toNatClampNeg)]) (st := []) (wf := cx g q E) (pc := 97) C (fun _ h => c_X9_addNumber h) kY_X9_addNumber kw_5_231 kw_5_232 kw_5_230 rfl ⟨Nat.le_of_ble_eq_true rfl, Nat.le_of_ble_eq_true rfl⟩ rfl rfl ⟨Nat.zero_le _, Nat.zero_le _⟩ 41 rfl rfl rfl (Nat.le_of_ble_eq_true rfl) dX11_write_97 (fun S14 => ?_)
        refine r_aload_n (pc := 100) C dX11_write_100 0 rfl ?_
        refine xg_x_sheet (pc := 101) C kw_2_82 dX11_write_101 ?_
        refine r_bipush (pc := 104) C dX11_write_104 (v := 47) (by decide) ?_
        refine r_cVwv (As := [.int 47]) (st := []) (wf := cx g q E) (pc := 106) C (fun _ h => c_X9_addSign h) kY_X9_addSign kw_5_226 kw_5_227 kw_5_225 rfl ⟨Nat.le_of_ble_eq_true rfl, Nat.le_of_ble_eq_true rfl⟩ rfl rfl ⟨Nat.zero_le _, Nat.zero_le _⟩ 41 rfl rfl rfl (Nat.le_of_ble_eq_true rfl) dX11_write_106 (fun S15 => ?_)
        refine r_aload_n (pc := 109) C dX11_write_109 0 rfl ?_
        refine xg_x_sheet (pc := 110) C kw_2_82 dX11_write_110 ?_
        refine r_aload_n (pc := 113) C dX11_write_113 0 rfl ?_
        refine xg_x_book (pc := 114) C kw_2_75 dX11_write_114 ?_
        refine xgN_bk_athlete (pc := 117) C knf_19 dX11_write_117 ?_
        refine r_iload (pc := 120) C dX11_write_120 2 rfl ?_
        refine xl_bk_athlete (pc := 122) C dX11_write_122 ?_
        refine r_cVwv (As := [.int (S15.2.1 14 x10.toNatClampNeg)]) (st := []) (wf := cx g q E) (pc := 123) C (fun _ h => c_X9_addNumber h) kY_X9_addNumber kw_5_231 kw_5_232 kw_5_230 rfl ⟨Nat.le_of_ble_eq_true rfl, Nat.le_of_ble_eq_true rfl⟩ rfl rfl ⟨Nat.zero_le _, Nat.zero_le _⟩ 41 rfl rfl rfl (Nat.le_of_ble_eq_true rfl) dX11_write_123 (fun S16 => ?_)
        refine r_iinc (pc := 126) C dX11_write_126 (v := 1) (lv' := fun x17 => [(0, .ref (q 0)), (4, .int x17), (5, .int x10)]) 1 rfl (by decide) (by decide) [1, 0, 2] (fun _ => rfl) (fun x17 => ?_)
        refine r_goto 24 (pc := 129) C dX11_write_129 (by decide) ?_
        refine r_sub (lv' := [(0, .ref (q 0)), (4, .int x17)]) [0, 1] rfl ?_
        exact ih7 S16 x17
      · refine r_ifb_eq 83 (pc := 71) C dX11_write_71 (by decide) ?_ ?_
        · exact hk19 S11
        · refine r_aload_n (pc := 74) C dX11_write_74 0 rfl ?_
          refine xg_x_sheet (pc := 75) C kw_2_82 dX11_write_75 ?_
          refine r_bipush (pc := 78) C dX11_write_78 (v := 61) (by decide) ?_
          refine r_cVwv (As := [.int 61]) (st := []) (wf := cx g q E) (pc := 80) C (fun _ h => c_X9_addSign h) kY_X9_addSign kw_5_226 kw_5_227 kw_5_225 rfl ⟨Nat.le_of_ble_eq_true rfl, Nat.le_of_ble_eq_true rfl⟩ rfl rfl ⟨Nat.zero_le _, Nat.zero_le _⟩ 41 rfl rfl rfl (Nat.le_of_ble_eq_true rfl) dX11_write_80 (fun S20 => ?_)
          exact hk19 S20
    · refine r_if_le 62 (pc := 50) C dX11_write_50 (by decide) ?_ ?_
      · exact hk22 S5
      · refine r_aload_n (pc := 53) C dX11_write_53 0 rfl ?_
        refine xg_x_sheet (pc := 54) C kw_2_82 dX11_write_54 ?_
        refine r_bipush (pc := 57) C dX11_write_57 (v := 32) (by decide) ?_
        refine r_cVwv (As := [.int 32]) (st := []) (wf := cx g q E) (pc := 59) C (fun _ h => c_X9_addSign h) kY_X9_addSign kw_5_226 kw_5_227 kw_5_225 rfl ⟨Nat.le_of_ble_eq_true rfl, Nat.le_of_ble_eq_true rfl⟩ rfl rfl ⟨Nat.zero_le _, Nat.zero_le _⟩ 41 rfl rfl rfl (Nat.le_of_ble_eq_true rfl) dX11_write_59 (fun S23 => ?_)
        exact hk22 S23
set_option maxRecDepth 100000 in
theorem v_X11_write_24 {S0 : CS} {k8 : CS → Option (Int32 × CS)} (hk9 : ∀ (S24 : CS), (gI [21, 23] [37, 43] S0) S24 → jf (gI [21, 23] [37, 43] S0) Prod.snd (k8 S24)) : ∀ (n : Nat) (S5 : CS) (x4 : Int32), (gI [21, 23] [37, 43] S0) S5 → jf (gI [21, 23] [37, 43] S0) Prod.snd (L_X11_write_24 k8 n S5 x4) := by
  refine f_lo2 (I := (gI [21, 23] [37, 43] S0)) (fun S5 x4 => S5) (fun rec6 ih7 S5 x4 hS5 => ?_)
  refine f_ite ?_ ?_
  · exact hk9 S5 hS5
  · refine f_chk ?_
    refine f_lt (fun x10 => ?_)
    refine f_jn1 (fun S11 hS11 => ?_) (fun k21 hk22 => ?_)
    · refine f_bp (fun x12 => ?_)
      refine f_jn1 (fun S13 hS13 => ?_) (fun k18 hk19 => ?_)
      · refine f_chk ?_
        refine f_bpS (fun _ h => gI_tr hS13 (w_X9_addNumber h) (by decide) (by decide)) (fun S14 hS14 => ?_)
        refine f_bpS (fun _ h => gI_tr hS14 (w_X9_addSign h) (by decide) (by decide)) (fun S15 hS15 => ?_)
        refine f_chk ?_
        refine f_bpS (fun _ h => gI_tr hS15 (w_X9_addNumber h) (by decide) (by decide)) (fun S16 hS16 => ?_)
        refine f_lt (fun x17 => ?_)
        exact ih7 S16 x17 hS16
      · refine f_ite ?_ ?_
        · refine f_bpS (fun _ h => gI_tr hS11 (w_X9_addSign h) (by decide) (by decide)) (fun S20 hS20 => ?_)
          exact hk19 S20 hS20
        · exact hk19 S11 hS11
    · refine f_ite ?_ ?_
      · exact hk22 S5 hS5
      · refine f_bpS (fun _ h => gI_tr hS5 (w_X9_addSign h) (by decide) (by decide)) (fun S23 hS23 => ?_)
        exact hk22 S23 hS23
def f_X11_write (S : CS) (a1 : Int32) (a2 : Int32) (a3 : Int32) : Option (Int32 × CS) :=
  bw (f_X11_fillChain S a1 a2 a3) (fun x1 S2 =>
  (if x1 = true then
  lt (ci S2 23 0) fun S3 =>
  L_X11_write_24 (fun S25 =>
  some (S25.1 23, S25)) FU S3 0
 else
  some ((-2), S2)))
set_option maxRecDepth 100000 in
set_option maxHeartbeats 4000000 in
theorem c_X11_write {g : KG} {q : Nat → Nat} {E : va_W} {S : CS} {a1 : Int32} {a2 : Int32} {a3 : Int32} {r : Int32} {S' : CS} (h : f_X11_write S a1 a2 a3 = some (r, S')) : ∀ l, kM l yX11_write cX11_write 6 (some .int) rm_X11_write g [.ref (q 0), .int a1, .int a2, .int a3] (cx g q E S) (cx g q E S') (some (.int r)) 0 0 := by
  refine k_open_i (own := "MarkChains") (by decide) rfl (Nat.le_of_ble_eq_true rfl) (fun X C hR => ?_)
  refine (?_ : jJ X g ((r, S') : Int32 × CS) (cx g q E S) 0 0 0 [(0, .ref (q 0)), (1, .int a1), (2, .int a2), (3, .int a3)] [] (f_X11_write S a1 a2 a3)) h
  unfold f_X11_write
  refine r_aload_n (pc := 0) C dX11_write_0 0 rfl ?_
  refine r_iload_n (pc := 1) C dX11_write_1 1 rfl ?_
  refine r_iload_n (pc := 2) C dX11_write_2 2 rfl ?_
  refine r_iload_n (pc := 3) C dX11_write_3 3 rfl ?_
  refine r_cVwz (As := [.int a1, .int a2, .int a3]) (st := []) (wf := cx g q E) (pc := 4) C (fun _ _ h => c_X11_fillChain h) kY_X11_fillChain kw_4_107 kw_0_24 kw_4_105 rfl ⟨Nat.le_of_ble_eq_true rfl, Nat.le_of_ble_eq_true rfl⟩ rfl rfl ⟨Nat.zero_le _, Nat.zero_le _⟩ 0 rfl rfl rfl (Nat.le_of_ble_eq_true rfl) dX11_write_4 (fun x1 S2 => ?_)
  refine r_ifb_ne 13 (pc := 7) C dX11_write_7 (by decide) ?_ ?_
  · refine r_aload_n (pc := 13) C dX11_write_13 0 rfl ?_
    refine xg_x_sheet (pc := 14) C kw_2_82 dX11_write_14 ?_
    refine r_iconst (pc := 17) C dX11_write_17 (v := 0) (by decide) ?_
    refine xpN_sh_size (pc := 18) C knf_39 dX11_write_18 (fun S3 => ?_)
    refine r_iconst (pc := 21) C dX11_write_21 (v := 0) (by decide) ?_
    refine r_istore (pc := 22) C dX11_write_22 (lv' := [(0, .ref (q 0)), (1, .int a1), (2, .int a2), (3, .int a3), (4, .int 0)]) (by decide) [1, 2, 3, 4, 0] rfl ?_
    refine r_sub (lv' := [(0, .ref (q 0)), (4, .int 0)]) [0, 4] rfl ?_
    refine l_X11_write_24 C hR _ (fun S25 => ?_) FU S3 0
    refine r_aload_n (pc := 132) C dX11_write_132 0 rfl ?_
    refine xg_x_sheet (pc := 133) C kw_2_82 dX11_write_133 ?_
    refine xgN_sh_size (pc := 136) C knf_39 dX11_write_136 ?_
    exact r_retWI (wf := cx g q E) hR (pc := 139) dX11_write_139
  · refine r_bipush (pc := 10) C dX11_write_10 (v := (-2)) (by decide) ?_
    exact r_retWI (wf := cx g q E) hR (pc := 12) dX11_write_12
set_option maxRecDepth 100000 in
theorem w_X11_write {S : CS} {a1 : Int32} {a2 : Int32} {a3 : Int32} {r : Int32} {S' : CS} (h : f_X11_write S a1 a2 a3 = some (r, S')) : gI [21, 23] [37, 43] S S' := by
  have hS : gI [21, 23] [37, 43] S S := gI_rf
  refine (?_ : jf (gI [21, 23] [37, 43] S) Prod.snd (f_X11_write S a1 a2 a3)) _ h
  unfold f_X11_write
  refine f_bwS (fun _ _ h => gI_tr hS (w_X11_fillChain h) (by decide) (by decide)) (fun x1 S2 hS2 => ?_)
  refine f_ite ?_ ?_
  · refine f_ltS (gI_ci hS2 (by decide)) (fun S3 hS3 => ?_)
    refine v_X11_write_24 (fun S25 hS25 => ?_) FU S3 0 hS3
    exact f_some hS25
  · exact f_some hS2
abbrev rm_X11_octet : Room := { frames := 0, cells := 0, slots := 0, locals := 0 }
theorem kY_X11_octet : kY yX11_octet cX11_octet 2 (some .int) 1 := ⟨kw_1_1, kw_5_239, by decide, by decide, by decide +kernel⟩
def f_X11_octet (S : CS) (a1 : Int32) : Option (Int32) :=
  (if a1 < 0 then
  some (-1)
 else
  (if (S.1 23) ≤ a1 then
  some (-1)
 else
  chk a1 400 (
  some (S.2.1 43 a1.toNatClampNeg))))
set_option maxRecDepth 100000 in
set_option maxHeartbeats 4000000 in
theorem c_X11_octet {g : KG} {q : Nat → Nat} {E : va_W} {S : CS} {a1 : Int32} {r : Int32} (h : f_X11_octet S a1 = some r) : ∀ l, kM l yX11_octet cX11_octet 2 (some .int) rm_X11_octet g [.ref (q 0), .int a1] (cx g q E S) (cx g q E S) (some (.int r)) 0 0 := by
  refine k_open_i (own := "MarkChains") (by decide) rfl (Nat.le_of_ble_eq_true rfl) (fun X C hR => ?_)
  refine (?_ : jJ X g (r : Int32) (cx g q E S) 0 0 0 [(0, .ref (q 0)), (1, .int a1)] [] (f_X11_octet S a1)) h
  unfold f_X11_octet
  refine r_iload_n (pc := 0) C dX11_octet_0 1 rfl ?_
  refine r_if_lt 27 (pc := 1) C dX11_octet_1 (by decide) ?_ ?_
  · refine r_iconst (pc := 27) C dX11_octet_27 (v := (-1)) (by decide) ?_
    exact r_retPI hR (pc := 28) dX11_octet_28
  · refine r_iload_n (pc := 4) C dX11_octet_4 1 rfl ?_
    refine r_aload_n (pc := 5) C dX11_octet_5 0 rfl ?_
    refine xg_x_sheet (pc := 6) C kw_2_82 dX11_octet_6 ?_
    refine xgN_sh_size (pc := 9) C knf_39 dX11_octet_9 ?_
    refine r_icmp_ge 27 (pc := 12) C dX11_octet_12 (by decide) ?_ ?_
    · refine r_iconst (pc := 27) C dX11_octet_27 (v := (-1)) (by decide) ?_
      exact r_retPI hR (pc := 28) dX11_octet_28
    · refine r_aload_n (pc := 15) C dX11_octet_15 0 rfl ?_
      refine xg_x_sheet (pc := 16) C kw_2_82 dX11_octet_16 ?_
      refine xgN_sh_bytes (pc := 19) C knf_38 dX11_octet_19 ?_
      refine r_iload_n (pc := 22) C dX11_octet_22 1 rfl ?_
      refine xl_sh_bytes (pc := 23) C dX11_octet_23 ?_
      refine r_goto 28 (pc := 24) C dX11_octet_24 (by decide) ?_
      exact r_retPI hR (pc := 28) dX11_octet_28
abbrev rm_X1_cutToSizes : Room := { frames := 1, cells := 0, slots := 0, locals := 21 }
theorem kY_X1_cutToSizes : kY yX1_cutToSizes cX1_cutToSizes 6 none 1 := ⟨kw_1_3, kw_3_89, by decide, by decide, by decide +kernel⟩
def L_X1_cutToSizes_98 (c3 : Int32) (k10 : CS → Option (CS)) : Nat → CS → Int32 → Int32 → Option (CS) := lo3 fun rec8 S7 x5 x6 =>
  (if (S7.1 6) ≤ x6 then
  k10 S7
 else
  chk x6 60 (
  (if c3 ≤ (S7.2.1 24 x6.toNatClampNeg) then
  lt (x6 + 1) fun x12 =>
  rec8 S7 x5 x12
 else
  chk x6 60 (
  chk x5 60 (lt (ca S7 24 (upd (S7.2.1 24) x5.toNatClampNeg (S7.2.1 24 x6.toNatClampNeg))) fun S13 =>
  lt (x5 + 1) fun x14 =>
  lt (x6 + 1) fun x15 =>
  rec8 S13 x14 x15)))))
set_option maxRecDepth 100000 in
set_option maxHeartbeats 4000000 in
theorem l_X1_cutToSizes_98 {X : KX} {g : KG} {q : Nat → Nat} {E : va_W} {res : CS} (C : kC X g cX1_cutToSizes "MarkChains$Book" rm_X1_cutToSizes 6) (hR : ∀ (pc : Nat) (lv : List (Nat × Value)), decode cX1_cutToSizes pc = .ok (.return_, 1) → jW X g (cx g q E res) 0 0 pc lv []) (c3 : Int32) (k10 : CS → Option (CS)) (hk11 : ∀ (S16 : CS), jJ X g res (cx g q E S16) 0 0 141 [(0, .ref (q 3)), (3, .int c3)] [] (k10 S16)) : ∀ (n : Nat) (S7 : CS) (x5 : Int32) (x6 : Int32), jJ X g res (cx g q E S7) 0 0 98 [(0, .ref (q 3)), (3, .int c3), (4, .int x5), (5, .int x6)] [] (L_X1_cutToSizes_98 c3 k10 n S7 x5 x6) := by
  refine r_lo3 (fun S7 x5 x6 => cx g q E S7) (fun S7 x5 x6 => [(0, .ref (q 3)), (3, .int c3), (4, .int x5), (5, .int x6)]) (fun rec8 ih9 S7 x5 x6 => ?_)
  refine r_iload (pc := 98) C dX1_cutToSizes_98 3 rfl ?_
  refine r_aload_n (pc := 100) C dX1_cutToSizes_100 0 rfl ?_
  refine xg_bk_size (pc := 101) C kw_1_125 dX1_cutToSizes_101 ?_
  refine r_icmp_ge 141 (pc := 104) C dX1_cutToSizes_104 (by decide) ?_ ?_
  · refine r_sub (lv' := [(0, .ref (q 3)), (3, .int c3)]) [0, 1] rfl ?_
    exact hk11 S7
  · refine r_aload_n (pc := 107) C dX1_cutToSizes_107 0 rfl ?_
    refine xg_bk_order (pc := 108) C kw_1_123 dX1_cutToSizes_108 ?_
    refine r_iload (pc := 111) C dX1_cutToSizes_111 3 rfl ?_
    refine xl_bk_order (pc := 113) C dX1_cutToSizes_113 ?_
    refine r_iload_n (pc := 114) C dX1_cutToSizes_114 1 rfl ?_
    refine r_icmp_ge 135 (pc := 115) C dX1_cutToSizes_115 (by decide) ?_ ?_
    · refine r_iinc (pc := 135) C dX1_cutToSizes_135 (v := 1) (lv' := fun x12 => [(0, .ref (q 3)), (3, .int c3), (4, .int x5), (5, .int x12)]) 3 rfl (by decide) (by decide) [1, 2, 3, 0] (fun _ => rfl) (fun x12 => ?_)
      refine r_goto 98 (pc := 138) C dX1_cutToSizes_138 (by decide) ?_
      exact ih9 S7 x5 x12
    · refine r_aload_n (pc := 118) C dX1_cutToSizes_118 0 rfl ?_
      refine xg_bk_order (pc := 119) C kw_1_123 dX1_cutToSizes_119 ?_
      refine r_iload (pc := 122) C dX1_cutToSizes_122 2 rfl ?_
      refine r_aload_n (pc := 124) C dX1_cutToSizes_124 0 rfl ?_
      refine xg_bk_order (pc := 125) C kw_1_123 dX1_cutToSizes_125 ?_
      refine r_iload (pc := 128) C dX1_cutToSizes_128 3 rfl ?_
      refine xl_bk_order (pc := 130) C dX1_cutToSizes_130 ?_
      refine xs_bk_order (pc := 131) C dX1_cutToSizes_131 (fun S13 => ?_)
      refine r_iinc (pc := 132) C dX1_cutToSizes_132 (v := 1) (lv' := fun x14 => [(0, .ref (q 3)), (3, .int c3), (4, .int x14), (5, .int x6)]) 2 rfl (by decide) (by decide) [1, 2, 0, 3] (fun _ => rfl) (fun x14 => ?_)
      refine r_iinc (pc := 135) C dX1_cutToSizes_135 (v := 1) (lv' := fun x15 => [(0, .ref (q 3)), (3, .int c3), (4, .int x14), (5, .int x15)]) 3 rfl (by decide) (by decide) [1, 2, 3, 0] (fun _ => rfl) (fun x15 => ?_)
      refine r_goto 98 (pc := 138) C dX1_cutToSizes_138 (by decide) ?_
      exact ih9 S13 x14 x15
set_option maxRecDepth 100000 in
theorem v_X1_cutToSizes_98 {S0 : CS} {c3 : Int32} {k10 : CS → Option (CS)} (hk11 : ∀ (S16 : CS), (gI [6, 7, 8, 9] [24] S0) S16 → jf (gI [6, 7, 8, 9] [24] S0) id (k10 S16)) : ∀ (n : Nat) (S7 : CS) (x5 : Int32) (x6 : Int32), (gI [6, 7, 8, 9] [24] S0) S7 → jf (gI [6, 7, 8, 9] [24] S0) id (L_X1_cutToSizes_98 c3 k10 n S7 x5 x6) := by
  refine f_lo3 (I := (gI [6, 7, 8, 9] [24] S0)) (fun S7 x5 x6 => S7) (fun rec8 ih9 S7 x5 x6 hS7 => ?_)
  refine f_ite ?_ ?_
  · exact hk11 S7 hS7
  · refine f_chk ?_
    refine f_ite ?_ ?_
    · refine f_lt (fun x12 => ?_)
      exact ih9 S7 x5 x12 hS7
    · refine f_chk ?_
      refine f_chk (f_ltS (gI_ca hS7 (by decide)) (fun S13 hS13 => ?_))
      refine f_lt (fun x14 => ?_)
      refine f_lt (fun x15 => ?_)
      exact ih9 S13 x14 x15 hS13
def f_X1_cutToSizes (S : CS) (a1 : Int64) : Option (CS) :=
  lt (ci S 7 ((if ((a1 &&& 255).toInt32) < (S.1 7) then ((a1 &&& 255).toInt32) else (S.1 7)))) fun S1 =>
  lt (ci S1 8 ((if (((a1 >>> ((8 : Int32).toInt64 &&& 63)) &&& 255).toInt32) < (S1.1 8) then (((a1 >>> ((8 : Int32).toInt64 &&& 63)) &&& 255).toInt32) else (S1.1 8)))) fun S2 =>
  lt (ci S2 9 ((if (((a1 >>> ((16 : Int32).toInt64 &&& 63)) &&& 255).toInt32) < (S2.1 9) then (((a1 >>> ((16 : Int32).toInt64 &&& 63)) &&& 255).toInt32) else (S2.1 9)))) fun S3 =>
  lt ((if (((a1 >>> ((24 : Int32).toInt64 &&& 63)) &&& 255).toInt32) < (S3.1 6) then (((a1 >>> ((24 : Int32).toInt64 &&& 63)) &&& 255).toInt32) else (S3.1 6))) fun x4 =>
  L_X1_cutToSizes_98 x4 (fun S17 =>
  lt (ci S17 6 x4) fun S18 =>
  some S18) FU S3 0 0
set_option maxRecDepth 100000 in
set_option maxHeartbeats 4000000 in
theorem c_X1_cutToSizes {g : KG} {q : Nat → Nat} {E : va_W} {S : CS} {a1 : Int64} {S' : CS} (h : f_X1_cutToSizes S a1 = some S') : ∀ l, kM l yX1_cutToSizes cX1_cutToSizes 6 none rm_X1_cutToSizes g [.ref (q 3), .long a1] (cx g q E S) (cx g q E S') (none) 0 0 := by
  refine k_open_v (own := "MarkChains$Book") (by decide) rfl (Nat.le_of_ble_eq_true rfl) (fun X C hR => ?_)
  refine (?_ : jJ X g (S' : CS) (cx g q E S) 0 0 0 [(0, .ref (q 3)), (1, .long a1)] [] (f_X1_cutToSizes S a1)) h
  unfold f_X1_cutToSizes
  refine r_aload_n (pc := 0) C dX1_cutToSizes_0 0 rfl ?_
  refine xg_bk_events (pc := 1) C kw_1_92 dX1_cutToSizes_1 ?_
  refine r_aload_n (pc := 4) C dX1_cutToSizes_4 0 rfl ?_
  refine xg_bk_events (pc := 5) C kw_1_92 dX1_cutToSizes_5 ?_
  refine xgN_pe_size (pc := 8) C knf_10 dX1_cutToSizes_8 ?_
  refine r_lload_n (pc := 11) C dX1_cutToSizes_11 1 rfl ?_
  refine r_ldc2 (pc := 12) C dX1_cutToSizes_12 kw_3_90 ?_
  refine r_land (pc := 15) C dX1_cutToSizes_15 ?_
  refine r_l2i (pc := 16) C dX1_cutToSizes_16 ?_
  refine r_mmin (st := [.ref (q 4)]) (pc := 17) C kw_3_91 (Nat.le_of_ble_eq_true rfl) (Nat.le_of_ble_eq_true rfl) ⟨Nat.zero_le _, Nat.zero_le _⟩ dX1_cutToSizes_17 ?_
  refine xpN_pe_size (pc := 20) C knf_10 dX1_cutToSizes_20 (fun S1 => ?_)
  refine r_aload_n (pc := 23) C dX1_cutToSizes_23 0 rfl ?_
  refine xg_bk_places (pc := 24) C kw_1_95 dX1_cutToSizes_24 ?_
  refine r_aload_n (pc := 27) C dX1_cutToSizes_27 0 rfl ?_
  refine xg_bk_places (pc := 28) C kw_1_95 dX1_cutToSizes_28 ?_
  refine xgN_pp_size (pc := 31) C knf_10 dX1_cutToSizes_31 ?_
  refine r_lload_n (pc := 34) C dX1_cutToSizes_34 1 rfl ?_
  refine r_bipush (pc := 35) C dX1_cutToSizes_35 (v := 8) (by decide) ?_
  refine r_lshr (pc := 37) C dX1_cutToSizes_37 ?_
  refine r_ldc2 (pc := 38) C dX1_cutToSizes_38 kw_3_90 ?_
  refine r_land (pc := 41) C dX1_cutToSizes_41 ?_
  refine r_l2i (pc := 42) C dX1_cutToSizes_42 ?_
  refine r_mmin (st := [.ref (q 7)]) (pc := 43) C kw_3_91 (Nat.le_of_ble_eq_true rfl) (Nat.le_of_ble_eq_true rfl) ⟨Nat.zero_le _, Nat.zero_le _⟩ dX1_cutToSizes_43 ?_
  refine xpN_pp_size (pc := 46) C knf_10 dX1_cutToSizes_46 (fun S2 => ?_)
  refine r_aload_n (pc := 49) C dX1_cutToSizes_49 0 rfl ?_
  refine xg_bk_athletes (pc := 50) C kw_1_98 dX1_cutToSizes_50 ?_
  refine r_aload_n (pc := 53) C dX1_cutToSizes_53 0 rfl ?_
  refine xg_bk_athletes (pc := 54) C kw_1_98 dX1_cutToSizes_54 ?_
  refine xgN_pa_size (pc := 57) C knf_10 dX1_cutToSizes_57 ?_
  refine r_lload_n (pc := 60) C dX1_cutToSizes_60 1 rfl ?_
  refine r_bipush (pc := 61) C dX1_cutToSizes_61 (v := 16) (by decide) ?_
  refine r_lshr (pc := 63) C dX1_cutToSizes_63 ?_
  refine r_ldc2 (pc := 64) C dX1_cutToSizes_64 kw_3_90 ?_
  refine r_land (pc := 67) C dX1_cutToSizes_67 ?_
  refine r_l2i (pc := 68) C dX1_cutToSizes_68 ?_
  refine r_mmin (st := [.ref (q 10)]) (pc := 69) C kw_3_91 (Nat.le_of_ble_eq_true rfl) (Nat.le_of_ble_eq_true rfl) ⟨Nat.zero_le _, Nat.zero_le _⟩ dX1_cutToSizes_69 ?_
  refine xpN_pa_size (pc := 72) C knf_10 dX1_cutToSizes_72 (fun S3 => ?_)
  refine r_aload_n (pc := 75) C dX1_cutToSizes_75 0 rfl ?_
  refine xg_bk_size (pc := 76) C kw_1_125 dX1_cutToSizes_76 ?_
  refine r_lload_n (pc := 79) C dX1_cutToSizes_79 1 rfl ?_
  refine r_bipush (pc := 80) C dX1_cutToSizes_80 (v := 24) (by decide) ?_
  refine r_lshr (pc := 82) C dX1_cutToSizes_82 ?_
  refine r_ldc2 (pc := 83) C dX1_cutToSizes_83 kw_3_90 ?_
  refine r_land (pc := 86) C dX1_cutToSizes_86 ?_
  refine r_l2i (pc := 87) C dX1_cutToSizes_87 ?_
  refine r_mmin (st := []) (pc := 88) C kw_3_91 (Nat.le_of_ble_eq_true rfl) (Nat.le_of_ble_eq_true rfl) ⟨Nat.zero_le _, Nat.zero_le _⟩ dX1_cutToSizes_88 ?_
  refine r_istoreV_n (pc := 91) C dX1_cutToSizes_91 (lv' := fun x4 => [(0, .ref (q 3)), (1, .long a1), (3, .int x4)]) (by decide) [1, 2, 0] (fun _ => rfl) (fun x4 => ?_)
  refine r_iconst (pc := 92) C dX1_cutToSizes_92 (v := 0) (by decide) ?_
  refine r_istore (pc := 93) C dX1_cutToSizes_93 (lv' := [(0, .ref (q 3)), (1, .long a1), (3, .int x4), (4, .int 0)]) (by decide) [1, 2, 3, 0] rfl ?_
  refine r_iconst (pc := 95) C dX1_cutToSizes_95 (v := 0) (by decide) ?_
  refine r_istore (pc := 96) C dX1_cutToSizes_96 (lv' := [(0, .ref (q 3)), (1, .long a1), (3, .int x4), (4, .int 0), (5, .int 0)]) (by decide) [1, 2, 3, 4, 0] rfl ?_
  refine r_sub (lv' := [(0, .ref (q 3)), (3, .int x4), (4, .int 0), (5, .int 0)]) [0, 2, 3, 4] rfl ?_
  refine l_X1_cutToSizes_98 C hR x4 _ (fun S17 => ?_) FU S3 0 0
  refine r_aload_n (pc := 141) C dX1_cutToSizes_141 0 rfl ?_
  refine r_iload_n (pc := 142) C dX1_cutToSizes_142 1 rfl ?_
  refine xp_bk_size (pc := 143) C kw_1_125 dX1_cutToSizes_143 (fun S18 => ?_)
  exact r_retWV (wf := cx g q E) hR (pc := 146) dX1_cutToSizes_146
set_option maxRecDepth 100000 in
theorem w_X1_cutToSizes {S : CS} {a1 : Int64} {S' : CS} (h : f_X1_cutToSizes S a1 = some S') : gI [6, 7, 8, 9] [24] S S' := by
  have hS : gI [6, 7, 8, 9] [24] S S := gI_rf
  refine (?_ : jf (gI [6, 7, 8, 9] [24] S) id (f_X1_cutToSizes S a1)) _ h
  unfold f_X1_cutToSizes
  refine f_ltS (gI_ci hS (by decide)) (fun S1 hS1 => ?_)
  refine f_ltS (gI_ci hS1 (by decide)) (fun S2 hS2 => ?_)
  refine f_ltS (gI_ci hS2 (by decide)) (fun S3 hS3 => ?_)
  refine f_lt (fun x4 => ?_)
  refine v_X1_cutToSizes_98 (fun S17 hS17 => ?_) FU S3 0 0 hS3
  refine f_ltS (gI_ci hS17 (by decide)) (fun S18 hS18 => ?_)
  exact f_some hS18
abbrev rm_X1_unstrike : Room := { frames := 0, cells := 0, slots := 0, locals := 0 }
theorem kY_X1_unstrike : kY yX1_unstrike cX1_unstrike 4 none 1 := ⟨kw_1_3, kw_5_220, by decide, by decide, by decide +kernel⟩
def L_X1_unstrike_2 (c1 : Int64) (k5 : CS → Option (CS)) : Nat → CS → Int32 → Option (CS) := lo2 fun rec3 S2 x1 =>
  (if (S2.1 6) ≤ x1 then
  k5 S2
 else
  (if (lg_cmp ((c1 >>> (x1.toInt64 &&& 63)) &&& 1) 0) = 0 then
  lt (x1 + 1) fun x7 =>
  rec3 S2 x7
 else
  chk x1 60 (lt (ca S2 23 (upd (S2.2.1 23) x1.toNatClampNeg (-1))) fun S8 =>
  lt (x1 + 1) fun x9 =>
  rec3 S8 x9)))
set_option maxRecDepth 100000 in
set_option maxHeartbeats 4000000 in
theorem l_X1_unstrike_2 {X : KX} {g : KG} {q : Nat → Nat} {E : va_W} {res : CS} (C : kC X g cX1_unstrike "MarkChains$Book" rm_X1_unstrike 4) (hR : ∀ (pc : Nat) (lv : List (Nat × Value)), decode cX1_unstrike pc = .ok (.return_, 1) → jW X g (cx g q E res) 0 0 pc lv []) (c1 : Int64) (k5 : CS → Option (CS)) (hk6 : ∀ (S10 : CS), jJ X g res (cx g q E S10) 0 0 33 [] [] (k5 S10)) : ∀ (n : Nat) (S2 : CS) (x1 : Int32), jJ X g res (cx g q E S2) 0 0 2 [(0, .ref (q 3)), (1, .long c1), (3, .int x1)] [] (L_X1_unstrike_2 c1 k5 n S2 x1) := by
  refine r_lo2 (fun S2 x1 => cx g q E S2) (fun S2 x1 => [(0, .ref (q 3)), (1, .long c1), (3, .int x1)]) (fun rec3 ih4 S2 x1 => ?_)
  refine r_iload_n (pc := 2) C dX1_unstrike_2 2 rfl ?_
  refine r_aload_n (pc := 3) C dX1_unstrike_3 0 rfl ?_
  refine xg_bk_size (pc := 4) C kw_1_125 dX1_unstrike_4 ?_
  refine r_icmp_ge 33 (pc := 7) C dX1_unstrike_7 (by decide) ?_ ?_
  · refine r_sub (lv' := []) [] rfl ?_
    exact hk6 S2
  · refine r_lload_n (pc := 10) C dX1_unstrike_10 1 rfl ?_
    refine r_iload_n (pc := 11) C dX1_unstrike_11 2 rfl ?_
    refine r_lshr (pc := 12) C dX1_unstrike_12 ?_
    refine r_lconst (pc := 13) C dX1_unstrike_13 (v := 1) (by decide) ?_
    refine r_land (pc := 14) C dX1_unstrike_14 ?_
    refine r_lconst (pc := 15) C dX1_unstrike_15 (v := 0) (by decide) ?_
    refine r_lcmp (pc := 16) C dX1_unstrike_16 ?_
    refine r_if_eq 27 (pc := 17) C dX1_unstrike_17 (by decide) ?_ ?_
    · refine r_iinc (pc := 27) C dX1_unstrike_27 (v := 1) (lv' := fun x7 => [(0, .ref (q 3)), (1, .long c1), (3, .int x7)]) 2 rfl (by decide) (by decide) [1, 2, 0] (fun _ => rfl) (fun x7 => ?_)
      refine r_goto 2 (pc := 30) C dX1_unstrike_30 (by decide) ?_
      exact ih4 S2 x7
    · refine r_aload_n (pc := 20) C dX1_unstrike_20 0 rfl ?_
      refine xg_bk_struck (pc := 21) C kw_1_121 dX1_unstrike_21 ?_
      refine r_iload_n (pc := 24) C dX1_unstrike_24 2 rfl ?_
      refine r_iconst (pc := 25) C dX1_unstrike_25 (v := (-1)) (by decide) ?_
      refine xs_bk_struck (pc := 26) C dX1_unstrike_26 (fun S8 => ?_)
      refine r_iinc (pc := 27) C dX1_unstrike_27 (v := 1) (lv' := fun x9 => [(0, .ref (q 3)), (1, .long c1), (3, .int x9)]) 2 rfl (by decide) (by decide) [1, 2, 0] (fun _ => rfl) (fun x9 => ?_)
      refine r_goto 2 (pc := 30) C dX1_unstrike_30 (by decide) ?_
      exact ih4 S8 x9
set_option maxRecDepth 100000 in
theorem v_X1_unstrike_2 {S0 : CS} {c1 : Int64} {k5 : CS → Option (CS)} (hk6 : ∀ (S10 : CS), (gI [] [23] S0) S10 → jf (gI [] [23] S0) id (k5 S10)) : ∀ (n : Nat) (S2 : CS) (x1 : Int32), (gI [] [23] S0) S2 → jf (gI [] [23] S0) id (L_X1_unstrike_2 c1 k5 n S2 x1) := by
  refine f_lo2 (I := (gI [] [23] S0)) (fun S2 x1 => S2) (fun rec3 ih4 S2 x1 hS2 => ?_)
  refine f_ite ?_ ?_
  · exact hk6 S2 hS2
  · refine f_ite ?_ ?_
    · refine f_lt (fun x7 => ?_)
      exact ih4 S2 x7 hS2
    · refine f_chk (f_ltS (gI_ca hS2 (by decide)) (fun S8 hS8 => ?_))
      refine f_lt (fun x9 => ?_)
      exact ih4 S8 x9 hS8
def f_X1_unstrike (S : CS) (a1 : Int64) : Option (CS) :=
  L_X1_unstrike_2 a1 (fun S11 =>
  some S11) FU S 0
set_option maxRecDepth 100000 in
set_option maxHeartbeats 4000000 in
theorem c_X1_unstrike {g : KG} {q : Nat → Nat} {E : va_W} {S : CS} {a1 : Int64} {S' : CS} (h : f_X1_unstrike S a1 = some S') : ∀ l, kM l yX1_unstrike cX1_unstrike 4 none rm_X1_unstrike g [.ref (q 3), .long a1] (cx g q E S) (cx g q E S') (none) 0 0 := by
  refine k_open_v (own := "MarkChains$Book") (by decide) rfl (Nat.le_of_ble_eq_true rfl) (fun X C hR => ?_)
  refine (?_ : jJ X g (S' : CS) (cx g q E S) 0 0 0 [(0, .ref (q 3)), (1, .long a1)] [] (f_X1_unstrike S a1)) h
  unfold f_X1_unstrike
  refine r_iconst (pc := 0) C dX1_unstrike_0 (v := 0) (by decide) ?_
  refine r_istore_n (pc := 1) C dX1_unstrike_1 (lv' := [(0, .ref (q 3)), (1, .long a1), (3, .int 0)]) (by decide) [1, 2, 0] rfl ?_
  refine l_X1_unstrike_2 C hR a1 _ (fun S11 => ?_) FU S 0
  exact r_retWV (wf := cx g q E) hR (pc := 33) dX1_unstrike_33
set_option maxRecDepth 100000 in
theorem w_X1_unstrike {S : CS} {a1 : Int64} {S' : CS} (h : f_X1_unstrike S a1 = some S') : gI [] [23] S S' := by
  have hS : gI [] [23] S S := gI_rf
  refine (?_ : jf (gI [] [23] S) id (f_X1_unstrike S a1)) _ h
  unfold f_X1_unstrike
  refine v_X1_unstrike_2 (fun S11 hS11 => ?_) FU S 0 hS
  exact f_some hS11
abbrev rm_X0_note : Room := { frames := 0, cells := 0, slots := 0, locals := 0 }
theorem kY_X0_note : kY yX0_note cX0_note 3 none 2 := ⟨kw_1_8, kw_5_141, by decide, by decide, by decide +kernel⟩
def f_X0_note (S : CS) (a1 : Int32) (a2 : Int32) : Option (CS) :=
  (if 0 ≤ a2 then
  (if 30 ≤ (S.1 17) then
  some S
 else
  chk (S.1 17) 30 (lt (ca S 33 (upd (S.2.1 33) (S.1 17).toNatClampNeg a2)) fun S1 =>
  lt (ci S1 17 ((S1.1 17) + 1)) fun S2 =>
  some S2))
 else
  lt (ci S 18 a1) fun S3 =>
  some S3)
set_option maxRecDepth 100000 in
set_option maxHeartbeats 4000000 in
theorem c_X0_note {g : KG} {q : Nat → Nat} {E : va_W} {S : CS} {a1 : Int32} {a2 : Int32} {S' : CS} (h : f_X0_note S a1 a2 = some S') : ∀ l, kM l yX0_note cX0_note 3 none rm_X0_note g [.ref (q 30), .int a1, .int a2] (cx g q E S) (cx g q E S') (none) 0 0 := by
  refine k_open_v (own := "MarkChains$Acts") (by decide) rfl (Nat.le_of_ble_eq_true rfl) (fun X C hR => ?_)
  refine (?_ : jJ X g (S' : CS) (cx g q E S) 0 0 0 [(0, .ref (q 30)), (1, .int a1), (2, .int a2)] [] (f_X0_note S a1 a2)) h
  unfold f_X0_note
  refine r_iload_n (pc := 0) C dX0_note_0 2 rfl ?_
  refine r_if_ge 12 (pc := 1) C dX0_note_1 (by decide) ?_ ?_
  · refine r_aload_n (pc := 12) C dX0_note_12 0 rfl ?_
    refine xg_ac_done (pc := 13) C kw_1_225 dX0_note_13 ?_
    refine r_bipush (pc := 16) C dX0_note_16 (v := 30) (by decide) ?_
    refine r_icmp_ge 41 (pc := 18) C dX0_note_18 (by decide) ?_ ?_
    · exact r_retWV (wf := cx g q E) hR (pc := 41) dX0_note_41
    · refine r_aload_n (pc := 21) C dX0_note_21 0 rfl ?_
      refine xg_ac_answers (pc := 22) C kw_1_223 dX0_note_22 ?_
      refine r_aload_n (pc := 25) C dX0_note_25 0 rfl ?_
      refine xg_ac_done (pc := 26) C kw_1_225 dX0_note_26 ?_
      refine r_iload_n (pc := 29) C dX0_note_29 2 rfl ?_
      refine xs_ac_answers (pc := 30) C dX0_note_30 (fun S1 => ?_)
      refine r_aload_n (pc := 31) C dX0_note_31 0 rfl ?_
      refine r_dup (pc := 32) C dX0_note_32 rfl ?_
      refine xg_ac_done (pc := 33) C kw_1_225 dX0_note_33 ?_
      refine r_iconst (pc := 36) C dX0_note_36 (v := 1) (by decide) ?_
      refine r_iadd (pc := 37) C dX0_note_37 ?_
      refine xp_ac_done (pc := 38) C kw_1_225 dX0_note_38 (fun S2 => ?_)
      exact r_retWV (wf := cx g q E) hR (pc := 41) dX0_note_41
  · refine r_aload_n (pc := 4) C dX0_note_4 0 rfl ?_
    refine r_iload_n (pc := 5) C dX0_note_5 1 rfl ?_
    refine xp_ac_endedBy (pc := 6) C kw_1_227 dX0_note_6 (fun S3 => ?_)
    refine r_goto 41 (pc := 9) C dX0_note_9 (by decide) ?_
    exact r_retWV (wf := cx g q E) hR (pc := 41) dX0_note_41
set_option maxRecDepth 100000 in
theorem w_X0_note {S : CS} {a1 : Int32} {a2 : Int32} {S' : CS} (h : f_X0_note S a1 a2 = some S') : gI [17, 18] [33] S S' := by
  have hS : gI [17, 18] [33] S S := gI_rf
  refine (?_ : jf (gI [17, 18] [33] S) id (f_X0_note S a1 a2)) _ h
  unfold f_X0_note
  refine f_ite ?_ ?_
  · refine f_ite ?_ ?_
    · exact f_some hS
    · refine f_chk (f_ltS (gI_ca hS (by decide)) (fun S1 hS1 => ?_))
      refine f_ltS (gI_ci hS1 (by decide)) (fun S2 hS2 => ?_)
      exact f_some hS2
  · refine f_ltS (gI_ci hS (by decide)) (fun S3 hS3 => ?_)
    exact f_some hS3
abbrev rm_X5_begin : Room := { frames := 0, cells := 0, slots := 0, locals := 0 }
theorem kY_X5_begin : kY yX5_begin cX5_begin 2 none 1 := ⟨kw_1_7, kw_3_136, by decide, by decide, by decide +kernel⟩
def f_X5_begin (S : CS) (a1 : Int32) : Option (CS) :=
  lt (ci S 10 0) fun S1 =>
  lt (ci S1 11 0) fun S2 =>
  lt (ci S2 12 0) fun S3 =>
  lt (ci S3 13 0) fun S4 =>
  lt (ci S4 14 0) fun S5 =>
  lt (ci S5 16 0) fun S6 =>
  lt (ci S6 15 a1) fun S7 =>
  some S7
set_option maxRecDepth 100000 in
set_option maxHeartbeats 4000000 in
theorem c_X5_begin {g : KG} {q : Nat → Nat} {E : va_W} {S : CS} {a1 : Int32} {S' : CS} (h : f_X5_begin S a1 = some S') : ∀ l, kM l yX5_begin cX5_begin 2 none rm_X5_begin g [.ref (q 26), .int a1] (cx g q E S) (cx g q E S') (none) 0 0 := by
  refine k_open_v (own := "MarkChains$FormulaReader") (by decide) rfl (Nat.le_of_ble_eq_true rfl) (fun X C hR => ?_)
  refine (?_ : jJ X g (S' : CS) (cx g q E S) 0 0 0 [(0, .ref (q 26)), (1, .int a1)] [] (f_X5_begin S a1)) h
  unfold f_X5_begin
  refine r_aload_n (pc := 0) C dX5_begin_0 0 rfl ?_
  refine r_iconst (pc := 1) C dX5_begin_1 (v := 0) (by decide) ?_
  refine xp_fr_codeSize (pc := 2) C kw_1_184 dX5_begin_2 (fun S1 => ?_)
  refine r_aload_n (pc := 5) C dX5_begin_5 0 rfl ?_
  refine r_iconst (pc := 6) C dX5_begin_6 (v := 0) (by decide) ?_
  refine xp_fr_waitingSize (pc := 7) C kw_1_185 dX5_begin_7 (fun S2 => ?_)
  refine r_aload_n (pc := 10) C dX5_begin_10 0 rfl ?_
  refine r_iconst (pc := 11) C dX5_begin_11 (v := 0) (by decide) ?_
  refine xp_fr_conds (pc := 12) C kw_1_186 dX5_begin_12 (fun S3 => ?_)
  refine r_aload_n (pc := 15) C dX5_begin_15 0 rfl ?_
  refine r_iconst (pc := 16) C dX5_begin_16 (v := 0) (by decide) ?_
  refine xp_fr_things (pc := 17) C kw_1_187 dX5_begin_17 (fun S4 => ?_)
  refine r_aload_n (pc := 20) C dX5_begin_20 0 rfl ?_
  refine r_iconst (pc := 21) C dX5_begin_21 (v := 0) (by decide) ?_
  refine xp_fr_nested (pc := 22) C kw_1_189 dX5_begin_22 (fun S5 => ?_)
  refine r_aload_n (pc := 25) C dX5_begin_25 0 rfl ?_
  refine r_iconst (pc := 26) C dX5_begin_26 (v := 0) (by decide) ?_
  refine xp_fr_isCompared (pc := 27) C kw_1_191 (by decide) (by decide) dX5_begin_27 (fun S6 => ?_)
  refine r_aload_n (pc := 30) C dX5_begin_30 0 rfl ?_
  refine r_iload_n (pc := 31) C dX5_begin_31 1 rfl ?_
  refine xp_fr_state (pc := 32) C kw_1_190 dX5_begin_32 (fun S7 => ?_)
  exact r_retWV (wf := cx g q E) hR (pc := 35) dX5_begin_35
set_option maxRecDepth 100000 in
theorem w_X5_begin {S : CS} {a1 : Int32} {S' : CS} (h : f_X5_begin S a1 = some S') : gI [10, 11, 12, 13, 14, 15, 16] [] S S' := by
  have hS : gI [10, 11, 12, 13, 14, 15, 16] [] S S := gI_rf
  refine (?_ : jf (gI [10, 11, 12, 13, 14, 15, 16] [] S) id (f_X5_begin S a1)) _ h
  unfold f_X5_begin
  refine f_ltS (gI_ci hS (by decide)) (fun S1 hS1 => ?_)
  refine f_ltS (gI_ci hS1 (by decide)) (fun S2 hS2 => ?_)
  refine f_ltS (gI_ci hS2 (by decide)) (fun S3 hS3 => ?_)
  refine f_ltS (gI_ci hS3 (by decide)) (fun S4 hS4 => ?_)
  refine f_ltS (gI_ci hS4 (by decide)) (fun S5 hS5 => ?_)
  refine f_ltS (gI_ci hS5 (by decide)) (fun S6 hS6 => ?_)
  refine f_ltS (gI_ci hS6 (by decide)) (fun S7 hS7 => ?_)
  exact f_some hS7
abbrev rm_X5_strengthOf : Room := { frames := 0, cells := 0, slots := 0, locals := 0 }
theorem kY_X5_strengthOf : kY yX5_strengthOf cX5_strengthOf 1 (some .int) 1 := ⟨kw_1_7, kw_3_170, by decide, by decide, by decide +kernel⟩
def f_X5_strengthOf (a0 : Int32) : Option (Int32) :=
  (if a0 = 33 then
  some 3
 else
  (if a0 = 38 then
  some 2
 else
  (if a0 = 42 then
  some 6
 else
  (if a0 = 43 then
  some 5
 else
  (if a0 = 45 then
  some 5
 else
  (if a0 = 47 then
  some 6
 else
  (if a0 = 60 then
  some 4
 else
  (if a0 = 61 then
  some 4
 else
  (if a0 = 62 then
  some 4
 else
  (if a0 = 124 then
  some 1
 else
  some 0))))))))))
set_option maxRecDepth 100000 in
set_option maxHeartbeats 4000000 in
theorem c_X5_strengthOf {g : KG} {ws : va_W} {a0 : Int32} {r : Int32} (h : f_X5_strengthOf a0 = some r) : ∀ l, kM l yX5_strengthOf cX5_strengthOf 1 (some .int) rm_X5_strengthOf g [.int a0] (ws) (ws) (some (.int r)) 0 0 := by
  refine k_open_i (own := "MarkChains$FormulaReader") (by decide) rfl (Nat.le_of_ble_eq_true rfl) (fun X C hR => ?_)
  refine (?_ : jJ X g (r : Int32) (ws) 0 0 0 [(0, .int a0)] [] (f_X5_strengthOf a0)) h
  unfold f_X5_strengthOf
  refine r_iload_n (pc := 0) C dX5_strengthOf_0 0 rfl ?_
  refine r_case (fun h1_0 => ?_) (fun h1_0 => ?_)
  · refine r_lookIn (off := 95) 96 (pc := 1) C dX5_strengthOf_1 h1_0 (by decide) (by decide) (by decide) ?_
    refine r_iconst (pc := 96) C dX5_strengthOf_96 (v := 3) (by decide) ?_
    exact r_retPI hR (pc := 97) dX5_strengthOf_97
  · refine r_case (fun h1_1 => ?_) (fun h1_1 => ?_)
    · refine r_lookIn (off := 93) 94 (pc := 1) C dX5_strengthOf_1 h1_1 (by decide) (by decide) (by decide) ?_
      refine r_iconst (pc := 94) C dX5_strengthOf_94 (v := 2) (by decide) ?_
      exact r_retPI hR (pc := 95) dX5_strengthOf_95
    · refine r_case (fun h1_2 => ?_) (fun h1_2 => ?_)
      · refine r_lookIn (off := 101) 102 (pc := 1) C dX5_strengthOf_1 h1_2 (by decide) (by decide) (by decide) ?_
        refine r_bipush (pc := 102) C dX5_strengthOf_102 (v := 6) (by decide) ?_
        exact r_retPI hR (pc := 104) dX5_strengthOf_104
      · refine r_case (fun h1_3 => ?_) (fun h1_3 => ?_)
        · refine r_lookIn (off := 99) 100 (pc := 1) C dX5_strengthOf_1 h1_3 (by decide) (by decide) (by decide) ?_
          refine r_iconst (pc := 100) C dX5_strengthOf_100 (v := 5) (by decide) ?_
          exact r_retPI hR (pc := 101) dX5_strengthOf_101
        · refine r_case (fun h1_4 => ?_) (fun h1_4 => ?_)
          · refine r_lookIn (off := 99) 100 (pc := 1) C dX5_strengthOf_1 h1_4 (by decide) (by decide) (by decide) ?_
            refine r_iconst (pc := 100) C dX5_strengthOf_100 (v := 5) (by decide) ?_
            exact r_retPI hR (pc := 101) dX5_strengthOf_101
          · refine r_case (fun h1_5 => ?_) (fun h1_5 => ?_)
            · refine r_lookIn (off := 101) 102 (pc := 1) C dX5_strengthOf_1 h1_5 (by decide) (by decide) (by decide) ?_
              refine r_bipush (pc := 102) C dX5_strengthOf_102 (v := 6) (by decide) ?_
              exact r_retPI hR (pc := 104) dX5_strengthOf_104
            · refine r_case (fun h1_6 => ?_) (fun h1_6 => ?_)
              · refine r_lookIn (off := 97) 98 (pc := 1) C dX5_strengthOf_1 h1_6 (by decide) (by decide) (by decide) ?_
                refine r_iconst (pc := 98) C dX5_strengthOf_98 (v := 4) (by decide) ?_
                exact r_retPI hR (pc := 99) dX5_strengthOf_99
              · refine r_case (fun h1_7 => ?_) (fun h1_7 => ?_)
                · refine r_lookIn (off := 97) 98 (pc := 1) C dX5_strengthOf_1 h1_7 (by decide) (by decide) (by decide) ?_
                  refine r_iconst (pc := 98) C dX5_strengthOf_98 (v := 4) (by decide) ?_
                  exact r_retPI hR (pc := 99) dX5_strengthOf_99
                · refine r_case (fun h1_8 => ?_) (fun h1_8 => ?_)
                  · refine r_lookIn (off := 97) 98 (pc := 1) C dX5_strengthOf_1 h1_8 (by decide) (by decide) (by decide) ?_
                    refine r_iconst (pc := 98) C dX5_strengthOf_98 (v := 4) (by decide) ?_
                    exact r_retPI hR (pc := 99) dX5_strengthOf_99
                  · refine r_case (fun h1_9 => ?_) (fun h1_9 => ?_)
                    · refine r_lookIn (off := 91) 92 (pc := 1) C dX5_strengthOf_1 h1_9 (by decide) (by decide) (by decide) ?_
                      refine r_iconst (pc := 92) C dX5_strengthOf_92 (v := 1) (by decide) ?_
                      exact r_retPI hR (pc := 93) dX5_strengthOf_93
                    · refine r_look (off := 104) 105 (pc := 1) C dX5_strengthOf_1 (by decide) (by rw [show (#[(33, 95), (38, 93), (42, 101), (43, 99), (45, 99), (47, 101), (60, 97), (61, 97), (62, 97), (124, 91)] : Array (Int × Int)).toList = [(33, 95), (38, 93), (42, 101), (43, 99), (45, 99), (47, 101), (60, 97), (61, 97), (62, 97), (124, 91)] from rfl, lv_osw h1_0 (by decide), lv_osw h1_1 (by decide), lv_osw h1_2 (by decide), lv_osw h1_3 (by decide), lv_osw h1_4 (by decide), lv_osw h1_5 (by decide), lv_osw h1_6 (by decide), lv_osw h1_7 (by decide), lv_osw h1_8 (by decide), lv_osw h1_9 (by decide)]; rfl) (by decide) ?_
                      refine r_iconst (pc := 105) C dX5_strengthOf_105 (v := 0) (by decide) ?_
                      exact r_retPI hR (pc := 106) dX5_strengthOf_106
abbrev rm_X5_emit : Room := { frames := 0, cells := 0, slots := 0, locals := 0 }
theorem kY_X5_emit : kY yX5_emit cX5_emit 2 none 1 := ⟨kw_1_7, kw_3_156, by decide, by decide, by decide +kernel⟩
def f_X5_emit (S : CS) (a1 : Int32) : Option (CS) :=
  (if 600 ≤ (S.1 10) then
  some S
 else
  chk (S.1 10) 600 (lt (ca S 27 (upd (S.2.1 27) (S.1 10).toNatClampNeg a1)) fun S1 =>
  lt (ci S1 10 ((S1.1 10) + 1)) fun S2 =>
  some S2))
set_option maxRecDepth 100000 in
set_option maxHeartbeats 4000000 in
theorem c_X5_emit {g : KG} {q : Nat → Nat} {E : va_W} {S : CS} {a1 : Int32} {S' : CS} (h : f_X5_emit S a1 = some S') : ∀ l, kM l yX5_emit cX5_emit 2 none rm_X5_emit g [.ref (q 26), .int a1] (cx g q E S) (cx g q E S') (none) 0 0 := by
  refine k_open_v (own := "MarkChains$FormulaReader") (by decide) rfl (Nat.le_of_ble_eq_true rfl) (fun X C hR => ?_)
  refine (?_ : jJ X g (S' : CS) (cx g q E S) 0 0 0 [(0, .ref (q 26)), (1, .int a1)] [] (f_X5_emit S a1)) h
  unfold f_X5_emit
  refine r_aload_n (pc := 0) C dX5_emit_0 0 rfl ?_
  refine xg_fr_codeSize (pc := 1) C kw_1_184 dX5_emit_1 ?_
  refine r_sipush (pc := 4) C dX5_emit_4 (v := 600) (by decide) ?_
  refine r_icmp_ge 30 (pc := 7) C dX5_emit_7 (by decide) ?_ ?_
  · exact r_retWV (wf := cx g q E) hR (pc := 30) dX5_emit_30
  · refine r_aload_n (pc := 10) C dX5_emit_10 0 rfl ?_
    refine xg_fr_code (pc := 11) C kw_1_181 dX5_emit_11 ?_
    refine r_aload_n (pc := 14) C dX5_emit_14 0 rfl ?_
    refine xg_fr_codeSize (pc := 15) C kw_1_184 dX5_emit_15 ?_
    refine r_iload_n (pc := 18) C dX5_emit_18 1 rfl ?_
    refine xs_fr_code (pc := 19) C dX5_emit_19 (fun S1 => ?_)
    refine r_aload_n (pc := 20) C dX5_emit_20 0 rfl ?_
    refine r_dup (pc := 21) C dX5_emit_21 rfl ?_
    refine xg_fr_codeSize (pc := 22) C kw_1_184 dX5_emit_22 ?_
    refine r_iconst (pc := 25) C dX5_emit_25 (v := 1) (by decide) ?_
    refine r_iadd (pc := 26) C dX5_emit_26 ?_
    refine xp_fr_codeSize (pc := 27) C kw_1_184 dX5_emit_27 (fun S2 => ?_)
    exact r_retWV (wf := cx g q E) hR (pc := 30) dX5_emit_30
set_option maxRecDepth 100000 in
theorem w_X5_emit {S : CS} {a1 : Int32} {S' : CS} (h : f_X5_emit S a1 = some S') : gI [10] [27] S S' := by
  have hS : gI [10] [27] S S := gI_rf
  refine (?_ : jf (gI [10] [27] S) id (f_X5_emit S a1)) _ h
  unfold f_X5_emit
  refine f_ite ?_ ?_
  · exact f_some hS
  · refine f_chk (f_ltS (gI_ca hS (by decide)) (fun S1 hS1 => ?_))
    refine f_ltS (gI_ci hS1 (by decide)) (fun S2 hS2 => ?_)
    exact f_some hS2
abbrev rm_X5_release : Room := { frames := 1, cells := 0, slots := 0, locals := 21 }
theorem kY_X5_release : kY yX5_release cX5_release 2 none 1 := ⟨kw_1_7, kw_3_174, by decide, by decide, by decide +kernel⟩
def L_X5_release_0 (c1 : Int32) (k4 : CS → Option (CS)) : Nat → CS → Option (CS) := lo1 fun rec2 S1 =>
  (if (S1.1 11) ≤ 0 then
  k4 S1
 else
  chk ((S1.1 11) - 1) 600 (
  bp (f_X5_strengthOf (S1.2.1 28 ((S1.1 11) - 1).toNatClampNeg)) (fun x6 =>
  (if x6 < c1 then
  k4 S1
 else
  lt (ci S1 11 ((S1.1 11) - 1)) fun S7 =>
  chk (S7.1 11) 600 (
  bp (f_X5_emit S7 (-(S7.2.1 28 (S7.1 11).toNatClampNeg))) (fun S8 =>
  chk (S8.1 11) 600 (
  (if (S8.2.1 28 (S8.1 11).toNatClampNeg) = 33 then
  lt (ci S8 14 ((S8.1 14) - 1)) fun S9 =>
  rec2 S9
 else
  rec2 S8))))))))
set_option maxRecDepth 100000 in
set_option maxHeartbeats 4000000 in
theorem l_X5_release_0 {X : KX} {g : KG} {q : Nat → Nat} {E : va_W} {res : CS} (C : kC X g cX5_release "MarkChains$FormulaReader" rm_X5_release 2) (hR : ∀ (pc : Nat) (lv : List (Nat × Value)), decode cX5_release pc = .ok (.return_, 1) → jW X g (cx g q E res) 0 0 pc lv []) (c1 : Int32) (k4 : CS → Option (CS)) (hk5 : ∀ (S10 : CS), jJ X g res (cx g q E S10) 0 0 76 [] [] (k4 S10)) : ∀ (n : Nat) (S1 : CS), jJ X g res (cx g q E S1) 0 0 0 [(0, .ref (q 26)), (1, .int c1)] [] (L_X5_release_0 c1 k4 n S1) := by
  refine r_lo1 (fun S1 => cx g q E S1) (fun S1 => [(0, .ref (q 26)), (1, .int c1)]) (fun rec2 ih3 S1 => ?_)
  refine r_aload_n (pc := 0) C dX5_release_0 0 rfl ?_
  refine xg_fr_waitingSize (pc := 1) C kw_1_185 dX5_release_1 ?_
  refine r_if_le 76 (pc := 4) C dX5_release_4 (by decide) ?_ ?_
  · refine r_sub (lv' := []) [] rfl ?_
    exact hk5 S1
  · refine r_aload_n (pc := 7) C dX5_release_7 0 rfl ?_
    refine xg_fr_waiting (pc := 8) C kw_1_182 dX5_release_8 ?_
    refine r_aload_n (pc := 11) C dX5_release_11 0 rfl ?_
    refine xg_fr_waitingSize (pc := 12) C kw_1_185 dX5_release_12 ?_
    refine r_iconst (pc := 15) C dX5_release_15 (v := 1) (by decide) ?_
    refine r_isub (pc := 16) C dX5_release_16 ?_
    refine xl_fr_waiting (pc := 17) C dX5_release_17 ?_
    refine r_cSpi (As := [.int (S1.2.1 28 ((S1.1 11) - 1).toNatClampNeg)]) (st := []) (pc := 18) C (fun _ h => c_X5_strengthOf h) kY_X5_strengthOf kw_3_169 kw_3_168 rfl ⟨Nat.le_of_ble_eq_true rfl, Nat.le_of_ble_eq_true rfl⟩ rfl rfl ⟨Nat.zero_le _, Nat.zero_le _⟩ rfl (Nat.le_of_ble_eq_true rfl) dX5_release_18 (fun x6 => ?_)
    refine r_iload_n (pc := 21) C dX5_release_21 1 rfl ?_
    refine r_icmp_lt 76 (pc := 22) C dX5_release_22 (by decide) ?_ ?_
    · refine r_sub (lv' := []) [] rfl ?_
      exact hk5 S1
    · refine r_aload_n (pc := 25) C dX5_release_25 0 rfl ?_
      refine r_dup (pc := 26) C dX5_release_26 rfl ?_
      refine xg_fr_waitingSize (pc := 27) C kw_1_185 dX5_release_27 ?_
      refine r_iconst (pc := 30) C dX5_release_30 (v := 1) (by decide) ?_
      refine r_isub (pc := 31) C dX5_release_31 ?_
      refine xp_fr_waitingSize (pc := 32) C kw_1_185 dX5_release_32 (fun S7 => ?_)
      refine r_aload_n (pc := 35) C dX5_release_35 0 rfl ?_
      refine r_aload_n (pc := 36) C dX5_release_36 0 rfl ?_
      refine xg_fr_waiting (pc := 37) C kw_1_182 dX5_release_37 ?_
      refine r_aload_n (pc := 40) C dX5_release_40 0 rfl ?_
      refine xg_fr_waitingSize (pc := 41) C kw_1_185 dX5_release_41 ?_
      refine xl_fr_waiting (pc := 44) C dX5_release_44 ?_
      refine r_ineg (pc := 45) C dX5_release_45 ?_
      refine r_cVwv (As := [.int (-(S7.2.1 28 (S7.1 11).toNatClampNeg))]) (st := []) (wf := cx g q E) (pc := 46) C (fun _ h => c_X5_emit h) kY_X5_emit kw_3_155 kw_0_9 kw_3_153 rfl ⟨Nat.le_of_ble_eq_true rfl, Nat.le_of_ble_eq_true rfl⟩ rfl rfl ⟨Nat.zero_le _, Nat.zero_le _⟩ 26 rfl rfl rfl (Nat.le_of_ble_eq_true rfl) dX5_release_46 (fun S8 => ?_)
      refine r_aload_n (pc := 49) C dX5_release_49 0 rfl ?_
      refine xg_fr_waiting (pc := 50) C kw_1_182 dX5_release_50 ?_
      refine r_aload_n (pc := 53) C dX5_release_53 0 rfl ?_
      refine xg_fr_waitingSize (pc := 54) C kw_1_185 dX5_release_54 ?_
      refine xl_fr_waiting (pc := 57) C dX5_release_57 ?_
      refine r_bipush (pc := 58) C dX5_release_58 (v := 33) (by decide) ?_
      refine r_icmp_ne 0 (pc := 60) C dX5_release_60 (by decide) ?_ ?_
      · exact ih3 S8
      · refine r_aload_n (pc := 63) C dX5_release_63 0 rfl ?_
        refine r_dup (pc := 64) C dX5_release_64 rfl ?_
        refine xg_fr_nested (pc := 65) C kw_1_189 dX5_release_65 ?_
        refine r_iconst (pc := 68) C dX5_release_68 (v := 1) (by decide) ?_
        refine r_isub (pc := 69) C dX5_release_69 ?_
        refine xp_fr_nested (pc := 70) C kw_1_189 dX5_release_70 (fun S9 => ?_)
        refine r_goto 0 (pc := 73) C dX5_release_73 (by decide) ?_
        exact ih3 S9
set_option maxRecDepth 100000 in
theorem v_X5_release_0 {S0 : CS} {c1 : Int32} {k4 : CS → Option (CS)} (hk5 : ∀ (S10 : CS), (gI [10, 11, 14] [27] S0) S10 → jf (gI [10, 11, 14] [27] S0) id (k4 S10)) : ∀ (n : Nat) (S1 : CS), (gI [10, 11, 14] [27] S0) S1 → jf (gI [10, 11, 14] [27] S0) id (L_X5_release_0 c1 k4 n S1) := by
  refine f_lo1 (I := (gI [10, 11, 14] [27] S0)) (fun S1 => S1) (fun rec2 ih3 S1 hS1 => ?_)
  refine f_ite ?_ ?_
  · exact hk5 S1 hS1
  · refine f_chk ?_
    refine f_bp (fun x6 => ?_)
    refine f_ite ?_ ?_
    · exact hk5 S1 hS1
    · refine f_ltS (gI_ci hS1 (by decide)) (fun S7 hS7 => ?_)
      refine f_chk ?_
      refine f_bpS (fun _ h => gI_tr hS7 (w_X5_emit h) (by decide) (by decide)) (fun S8 hS8 => ?_)
      refine f_chk ?_
      refine f_ite ?_ ?_
      · refine f_ltS (gI_ci hS8 (by decide)) (fun S9 hS9 => ?_)
        exact ih3 S9 hS9
      · exact ih3 S8 hS8
def f_X5_release (S : CS) (a1 : Int32) : Option (CS) :=
  L_X5_release_0 a1 (fun S11 =>
  some S11) FU S
set_option maxRecDepth 100000 in
set_option maxHeartbeats 4000000 in
theorem c_X5_release {g : KG} {q : Nat → Nat} {E : va_W} {S : CS} {a1 : Int32} {S' : CS} (h : f_X5_release S a1 = some S') : ∀ l, kM l yX5_release cX5_release 2 none rm_X5_release g [.ref (q 26), .int a1] (cx g q E S) (cx g q E S') (none) 0 0 := by
  refine k_open_v (own := "MarkChains$FormulaReader") (by decide) rfl (Nat.le_of_ble_eq_true rfl) (fun X C hR => ?_)
  refine (?_ : jJ X g (S' : CS) (cx g q E S) 0 0 0 [(0, .ref (q 26)), (1, .int a1)] [] (f_X5_release S a1)) h
  unfold f_X5_release
  refine l_X5_release_0 C hR a1 _ (fun S11 => ?_) FU S
  exact r_retWV (wf := cx g q E) hR (pc := 76) dX5_release_76
set_option maxRecDepth 100000 in
theorem w_X5_release {S : CS} {a1 : Int32} {S' : CS} (h : f_X5_release S a1 = some S') : gI [10, 11, 14] [27] S S' := by
  have hS : gI [10, 11, 14] [27] S S := gI_rf
  refine (?_ : jf (gI [10, 11, 14] [27] S) id (f_X5_release S a1)) _ h
  unfold f_X5_release
  refine v_X5_release_0 (fun S11 hS11 => ?_) FU S hS
  exact f_some hS11
abbrev rm_X5_await : Room := { frames := 1, cells := 0, slots := 0, locals := 20 }
theorem kY_X5_await : kY yX5_await cX5_await 3 (some .boolean) 2 := ⟨kw_1_7, kw_3_163, by decide, by decide, by decide +kernel⟩
def f_X5_await (S : CS) (a1 : Int32) (a2 : Int32) : Option (Bool × CS) :=
  (if (S.1 11) < 600 then
  chk (S.1 11) 600 (lt (ca S 28 (upd (S.2.1 28) (S.1 11).toNatClampNeg a1)) fun S1 =>
  lt (ci S1 11 ((S1.1 11) + 1)) fun S2 =>
  bp (f_X10_step S2) (fun S3 =>
  lt (ci S3 15 a2) fun S4 =>
  some (true, S4)))
 else
  some (false, S))
set_option maxRecDepth 100000 in
set_option maxHeartbeats 4000000 in
theorem c_X5_await {g : KG} {q : Nat → Nat} {E : va_W} {S : CS} {a1 : Int32} {a2 : Int32} {r : Bool} {S' : CS} (h : f_X5_await S a1 a2 = some (r, S')) : ∀ l, kM l yX5_await cX5_await 3 (some .boolean) rm_X5_await g [.ref (q 26), .int a1, .int a2] (cx g q E S) (cx g q E S') (some (.int (b2 r))) 0 0 := by
  refine k_open_z (own := "MarkChains$FormulaReader") (by decide) rfl (Nat.le_of_ble_eq_true rfl) (fun X C hR => ?_)
  refine (?_ : jJ X g ((r, S') : Bool × CS) (cx g q E S) 0 0 0 [(0, .ref (q 26)), (1, .int a1), (2, .int a2)] [] (f_X5_await S a1 a2)) h
  unfold f_X5_await
  refine r_aload_n (pc := 0) C dX5_await_0 0 rfl ?_
  refine xg_fr_waitingSize (pc := 1) C kw_1_185 dX5_await_1 ?_
  refine r_sipush (pc := 4) C dX5_await_4 (v := 600) (by decide) ?_
  refine r_icmp_lt 12 (pc := 7) C dX5_await_7 (by decide) ?_ ?_
  · refine r_aload_n (pc := 12) C dX5_await_12 0 rfl ?_
    refine xg_fr_waiting (pc := 13) C kw_1_182 dX5_await_13 ?_
    refine r_aload_n (pc := 16) C dX5_await_16 0 rfl ?_
    refine xg_fr_waitingSize (pc := 17) C kw_1_185 dX5_await_17 ?_
    refine r_iload_n (pc := 20) C dX5_await_20 1 rfl ?_
    refine xs_fr_waiting (pc := 21) C dX5_await_21 (fun S1 => ?_)
    refine r_aload_n (pc := 22) C dX5_await_22 0 rfl ?_
    refine r_dup (pc := 23) C dX5_await_23 rfl ?_
    refine xg_fr_waitingSize (pc := 24) C kw_1_185 dX5_await_24 ?_
    refine r_iconst (pc := 27) C dX5_await_27 (v := 1) (by decide) ?_
    refine r_iadd (pc := 28) C dX5_await_28 ?_
    refine xp_fr_waitingSize (pc := 29) C kw_1_185 dX5_await_29 (fun S2 => ?_)
    refine r_aload_n (pc := 32) C dX5_await_32 0 rfl ?_
    refine xg_fr_tape (pc := 33) C kw_1_180 dX5_await_33 ?_
    refine r_cVwv (As := []) (st := []) (wf := cx g q E) (pc := 36) C (fun _ h => c_X10_step h) kY_X10_step kw_3_16 kw_3_17 kw_3_159 rfl ⟨Nat.le_of_ble_eq_true rfl, Nat.le_of_ble_eq_true rfl⟩ rfl rfl ⟨Nat.zero_le _, Nat.zero_le _⟩ 1 rfl rfl rfl (Nat.le_of_ble_eq_true rfl) dX5_await_36 (fun S3 => ?_)
    refine r_aload_n (pc := 39) C dX5_await_39 0 rfl ?_
    refine r_iload_n (pc := 40) C dX5_await_40 2 rfl ?_
    refine xp_fr_state (pc := 41) C kw_1_190 dX5_await_41 (fun S4 => ?_)
    refine r_iconst (pc := 44) C dX5_await_44 (v := 1) (by decide) ?_
    exact r_retWZ hR rfl (pc := 45) dX5_await_45
  · refine r_iconst (pc := 10) C dX5_await_10 (v := 0) (by decide) ?_
    exact r_retWZ hR rfl (pc := 11) dX5_await_11
set_option maxRecDepth 100000 in
theorem w_X5_await {S : CS} {a1 : Int32} {a2 : Int32} {r : Bool} {S' : CS} (h : f_X5_await S a1 a2 = some (r, S')) : gI [2, 11, 15] [28] S S' := by
  have hS : gI [2, 11, 15] [28] S S := gI_rf
  refine (?_ : jf (gI [2, 11, 15] [28] S) Prod.snd (f_X5_await S a1 a2)) _ h
  unfold f_X5_await
  refine f_ite ?_ ?_
  · refine f_chk (f_ltS (gI_ca hS (by decide)) (fun S1 hS1 => ?_))
    refine f_ltS (gI_ci hS1 (by decide)) (fun S2 hS2 => ?_)
    refine f_bpS (fun _ h => gI_tr hS2 (w_X10_step h) (by decide) (by decide)) (fun S3 hS3 => ?_)
    refine f_ltS (gI_ci hS3 (by decide)) (fun S4 hS4 => ?_)
    exact f_some hS4
  · exact f_some hS
abbrev rm_X5_closeBracket : Room := { frames := 2, cells := 0, slots := 0, locals := 42 }
theorem kY_X5_closeBracket : kY yX5_closeBracket cX5_closeBracket 1 (some .boolean) 0 := ⟨kw_1_7, kw_3_186, by decide, by decide, by decide +kernel⟩
def f_X5_closeBracket (S : CS) : Option (Bool × CS) :=
  bp (f_X5_release S 1) (fun S1 =>
  (if (S1.1 11) = 0 then
  some (false, S1)
 else
  lt (ci S1 11 ((S1.1 11) - 1)) fun S2 =>
  lt (ci S2 14 ((S2.1 14) - 1)) fun S3 =>
  bp (f_X10_step S3) (fun S4 =>
  lt (ci S4 15 3) fun S5 =>
  some (true, S5))))
set_option maxRecDepth 100000 in
set_option maxHeartbeats 4000000 in
theorem c_X5_closeBracket {g : KG} {q : Nat → Nat} {E : va_W} {S : CS}  {r : Bool} {S' : CS} (h : f_X5_closeBracket S = some (r, S')) : ∀ l, kM l yX5_closeBracket cX5_closeBracket 1 (some .boolean) rm_X5_closeBracket g [.ref (q 26)] (cx g q E S) (cx g q E S') (some (.int (b2 r))) 0 0 := by
  refine k_open_z (own := "MarkChains$FormulaReader") (by decide) rfl (Nat.le_of_ble_eq_true rfl) (fun X C hR => ?_)
  refine (?_ : jJ X g ((r, S') : Bool × CS) (cx g q E S) 0 0 0 [(0, .ref (q 26))] [] (f_X5_closeBracket S)) h
  unfold f_X5_closeBracket
  refine r_aload_n (pc := 0) C dX5_closeBracket_0 0 rfl ?_
  refine r_iconst (pc := 1) C dX5_closeBracket_1 (v := 1) (by decide) ?_
  refine r_cVwv (As := [.int 1]) (st := []) (wf := cx g q E) (pc := 2) C (fun _ h => c_X5_release h) kY_X5_release kw_3_173 kw_0_12 kw_3_171 rfl ⟨Nat.le_of_ble_eq_true rfl, Nat.le_of_ble_eq_true rfl⟩ rfl rfl ⟨Nat.zero_le _, Nat.zero_le _⟩ 26 rfl rfl rfl (Nat.le_of_ble_eq_true rfl) dX5_closeBracket_2 (fun S1 => ?_)
  refine r_aload_n (pc := 5) C dX5_closeBracket_5 0 rfl ?_
  refine xg_fr_waitingSize (pc := 6) C kw_1_185 dX5_closeBracket_6 ?_
  refine r_if_ne 14 (pc := 9) C dX5_closeBracket_9 (by decide) ?_ ?_
  · refine r_aload_n (pc := 14) C dX5_closeBracket_14 0 rfl ?_
    refine r_dup (pc := 15) C dX5_closeBracket_15 rfl ?_
    refine xg_fr_waitingSize (pc := 16) C kw_1_185 dX5_closeBracket_16 ?_
    refine r_iconst (pc := 19) C dX5_closeBracket_19 (v := 1) (by decide) ?_
    refine r_isub (pc := 20) C dX5_closeBracket_20 ?_
    refine xp_fr_waitingSize (pc := 21) C kw_1_185 dX5_closeBracket_21 (fun S2 => ?_)
    refine r_aload_n (pc := 24) C dX5_closeBracket_24 0 rfl ?_
    refine r_dup (pc := 25) C dX5_closeBracket_25 rfl ?_
    refine xg_fr_nested (pc := 26) C kw_1_189 dX5_closeBracket_26 ?_
    refine r_iconst (pc := 29) C dX5_closeBracket_29 (v := 1) (by decide) ?_
    refine r_isub (pc := 30) C dX5_closeBracket_30 ?_
    refine xp_fr_nested (pc := 31) C kw_1_189 dX5_closeBracket_31 (fun S3 => ?_)
    refine r_aload_n (pc := 34) C dX5_closeBracket_34 0 rfl ?_
    refine xg_fr_tape (pc := 35) C kw_1_180 dX5_closeBracket_35 ?_
    refine r_cVwv (As := []) (st := []) (wf := cx g q E) (pc := 38) C (fun _ h => c_X10_step h) kY_X10_step kw_3_16 kw_3_17 kw_3_159 rfl ⟨Nat.le_of_ble_eq_true rfl, Nat.le_of_ble_eq_true rfl⟩ rfl rfl ⟨Nat.zero_le _, Nat.zero_le _⟩ 1 rfl rfl rfl (Nat.le_of_ble_eq_true rfl) dX5_closeBracket_38 (fun S4 => ?_)
    refine r_aload_n (pc := 41) C dX5_closeBracket_41 0 rfl ?_
    refine r_iconst (pc := 42) C dX5_closeBracket_42 (v := 3) (by decide) ?_
    refine xp_fr_state (pc := 43) C kw_1_190 dX5_closeBracket_43 (fun S5 => ?_)
    refine r_iconst (pc := 46) C dX5_closeBracket_46 (v := 1) (by decide) ?_
    exact r_retWZ hR rfl (pc := 47) dX5_closeBracket_47
  · refine r_iconst (pc := 12) C dX5_closeBracket_12 (v := 0) (by decide) ?_
    exact r_retWZ hR rfl (pc := 13) dX5_closeBracket_13
set_option maxRecDepth 100000 in
theorem w_X5_closeBracket {S : CS}  {r : Bool} {S' : CS} (h : f_X5_closeBracket S = some (r, S')) : gI [2, 10, 11, 14, 15] [27] S S' := by
  have hS : gI [2, 10, 11, 14, 15] [27] S S := gI_rf
  refine (?_ : jf (gI [2, 10, 11, 14, 15] [27] S) Prod.snd (f_X5_closeBracket S)) _ h
  unfold f_X5_closeBracket
  refine f_bpS (fun _ h => gI_tr hS (w_X5_release h) (by decide) (by decide)) (fun S1 hS1 => ?_)
  refine f_ite ?_ ?_
  · exact f_some hS1
  · refine f_ltS (gI_ci hS1 (by decide)) (fun S2 hS2 => ?_)
    refine f_ltS (gI_ci hS2 (by decide)) (fun S3 hS3 => ?_)
    refine f_bpS (fun _ h => gI_tr hS3 (w_X10_step h) (by decide) (by decide)) (fun S4 hS4 => ?_)
    refine f_ltS (gI_ci hS4 (by decide)) (fun S5 hS5 => ?_)
    exact f_some hS5
abbrev rm_X5_endPart : Room := { frames := 0, cells := 0, slots := 0, locals := 0 }
theorem kY_X5_endPart : kY yX5_endPart cX5_endPart 1 none 0 := ⟨kw_1_7, kw_3_194, by decide, by decide, by decide +kernel⟩
def f_X5_endPart (S : CS) : Option (CS) :=
  (if 8 ≤ (S.1 12) then
  some S
 else
  chk (S.1 12) 8 (lt (ca S 29 (upd (S.2.1 29) (S.1 12).toNatClampNeg (S.1 10))) fun S1 =>
  lt (ci S1 12 ((S1.1 12) + 1)) fun S2 =>
  some S2))
set_option maxRecDepth 100000 in
set_option maxHeartbeats 4000000 in
theorem c_X5_endPart {g : KG} {q : Nat → Nat} {E : va_W} {S : CS}  {S' : CS} (h : f_X5_endPart S = some S') : ∀ l, kM l yX5_endPart cX5_endPart 1 none rm_X5_endPart g [.ref (q 26)] (cx g q E S) (cx g q E S') (none) 0 0 := by
  refine k_open_v (own := "MarkChains$FormulaReader") (by decide) rfl (Nat.le_of_ble_eq_true rfl) (fun X C hR => ?_)
  refine (?_ : jJ X g (S' : CS) (cx g q E S) 0 0 0 [(0, .ref (q 26))] [] (f_X5_endPart S)) h
  unfold f_X5_endPart
  refine r_aload_n (pc := 0) C dX5_endPart_0 0 rfl ?_
  refine xg_fr_conds (pc := 1) C kw_1_186 dX5_endPart_1 ?_
  refine r_bipush (pc := 4) C dX5_endPart_4 (v := 8) (by decide) ?_
  refine r_icmp_ge 32 (pc := 6) C dX5_endPart_6 (by decide) ?_ ?_
  · exact r_retWV (wf := cx g q E) hR (pc := 32) dX5_endPart_32
  · refine r_aload_n (pc := 9) C dX5_endPart_9 0 rfl ?_
    refine xg_fr_ends (pc := 10) C kw_1_183 dX5_endPart_10 ?_
    refine r_aload_n (pc := 13) C dX5_endPart_13 0 rfl ?_
    refine xg_fr_conds (pc := 14) C kw_1_186 dX5_endPart_14 ?_
    refine r_aload_n (pc := 17) C dX5_endPart_17 0 rfl ?_
    refine xg_fr_codeSize (pc := 18) C kw_1_184 dX5_endPart_18 ?_
    refine xs_fr_ends (pc := 21) C dX5_endPart_21 (fun S1 => ?_)
    refine r_aload_n (pc := 22) C dX5_endPart_22 0 rfl ?_
    refine r_dup (pc := 23) C dX5_endPart_23 rfl ?_
    refine xg_fr_conds (pc := 24) C kw_1_186 dX5_endPart_24 ?_
    refine r_iconst (pc := 27) C dX5_endPart_27 (v := 1) (by decide) ?_
    refine r_iadd (pc := 28) C dX5_endPart_28 ?_
    refine xp_fr_conds (pc := 29) C kw_1_186 dX5_endPart_29 (fun S2 => ?_)
    exact r_retWV (wf := cx g q E) hR (pc := 32) dX5_endPart_32
set_option maxRecDepth 100000 in
theorem w_X5_endPart {S : CS}  {S' : CS} (h : f_X5_endPart S = some S') : gI [12] [29] S S' := by
  have hS : gI [12] [29] S S := gI_rf
  refine (?_ : jf (gI [12] [29] S) id (f_X5_endPart S)) _ h
  unfold f_X5_endPart
  refine f_ite ?_ ?_
  · exact f_some hS
  · refine f_chk (f_ltS (gI_ca hS (by decide)) (fun S1 hS1 => ?_))
    refine f_ltS (gI_ci hS1 (by decide)) (fun S2 hS2 => ?_)
    exact f_some hS2
abbrev rm_X5_closeCond : Room := { frames := 2, cells := 0, slots := 0, locals := 42 }
theorem kY_X5_closeCond : kY yX5_closeCond cX5_closeCond 1 (some .boolean) 0 := ⟨kw_1_7, kw_3_190, by decide, by decide, by decide +kernel⟩
def f_X5_closeCond (S : CS) : Option (Bool × CS) :=
  bp (f_X5_release S 1) (fun S1 =>
  (if (S1.1 11) = 0 then
  bp (f_X5_endPart S1) (fun S2 =>
  bp (f_X10_step S2) (fun S3 =>
  lt (ci S3 15 4) fun S4 =>
  some (true, S4)))
 else
  some (false, S1)))
set_option maxRecDepth 100000 in
set_option maxHeartbeats 4000000 in
theorem c_X5_closeCond {g : KG} {q : Nat → Nat} {E : va_W} {S : CS}  {r : Bool} {S' : CS} (h : f_X5_closeCond S = some (r, S')) : ∀ l, kM l yX5_closeCond cX5_closeCond 1 (some .boolean) rm_X5_closeCond g [.ref (q 26)] (cx g q E S) (cx g q E S') (some (.int (b2 r))) 0 0 := by
  refine k_open_z (own := "MarkChains$FormulaReader") (by decide) rfl (Nat.le_of_ble_eq_true rfl) (fun X C hR => ?_)
  refine (?_ : jJ X g ((r, S') : Bool × CS) (cx g q E S) 0 0 0 [(0, .ref (q 26))] [] (f_X5_closeCond S)) h
  unfold f_X5_closeCond
  refine r_aload_n (pc := 0) C dX5_closeCond_0 0 rfl ?_
  refine r_iconst (pc := 1) C dX5_closeCond_1 (v := 1) (by decide) ?_
  refine r_cVwv (As := [.int 1]) (st := []) (wf := cx g q E) (pc := 2) C (fun _ h => c_X5_release h) kY_X5_release kw_3_173 kw_0_12 kw_3_171 rfl ⟨Nat.le_of_ble_eq_true rfl, Nat.le_of_ble_eq_true rfl⟩ rfl rfl ⟨Nat.zero_le _, Nat.zero_le _⟩ 26 rfl rfl rfl (Nat.le_of_ble_eq_true rfl) dX5_closeCond_2 (fun S1 => ?_)
  refine r_aload_n (pc := 5) C dX5_closeCond_5 0 rfl ?_
  refine xg_fr_waitingSize (pc := 6) C kw_1_185 dX5_closeCond_6 ?_
  refine r_if_eq 14 (pc := 9) C dX5_closeCond_9 (by decide) ?_ ?_
  · refine r_aload_n (pc := 14) C dX5_closeCond_14 0 rfl ?_
    refine r_cVwv (As := []) (st := []) (wf := cx g q E) (pc := 15) C (fun _ h => c_X5_endPart h) kY_X5_endPart kw_3_193 kw_0_17 kw_3_191 rfl ⟨Nat.le_of_ble_eq_true rfl, Nat.le_of_ble_eq_true rfl⟩ rfl rfl ⟨Nat.zero_le _, Nat.zero_le _⟩ 26 rfl rfl rfl (Nat.le_of_ble_eq_true rfl) dX5_closeCond_15 (fun S2 => ?_)
    refine r_aload_n (pc := 18) C dX5_closeCond_18 0 rfl ?_
    refine xg_fr_tape (pc := 19) C kw_1_180 dX5_closeCond_19 ?_
    refine r_cVwv (As := []) (st := []) (wf := cx g q E) (pc := 22) C (fun _ h => c_X10_step h) kY_X10_step kw_3_16 kw_3_17 kw_3_159 rfl ⟨Nat.le_of_ble_eq_true rfl, Nat.le_of_ble_eq_true rfl⟩ rfl rfl ⟨Nat.zero_le _, Nat.zero_le _⟩ 1 rfl rfl rfl (Nat.le_of_ble_eq_true rfl) dX5_closeCond_22 (fun S3 => ?_)
    refine r_aload_n (pc := 25) C dX5_closeCond_25 0 rfl ?_
    refine r_iconst (pc := 26) C dX5_closeCond_26 (v := 4) (by decide) ?_
    refine xp_fr_state (pc := 27) C kw_1_190 dX5_closeCond_27 (fun S4 => ?_)
    refine r_iconst (pc := 30) C dX5_closeCond_30 (v := 1) (by decide) ?_
    exact r_retWZ hR rfl (pc := 31) dX5_closeCond_31
  · refine r_iconst (pc := 12) C dX5_closeCond_12 (v := 0) (by decide) ?_
    exact r_retWZ hR rfl (pc := 13) dX5_closeCond_13
set_option maxRecDepth 100000 in
theorem w_X5_closeCond {S : CS}  {r : Bool} {S' : CS} (h : f_X5_closeCond S = some (r, S')) : gI [2, 10, 11, 12, 14, 15] [27, 29] S S' := by
  have hS : gI [2, 10, 11, 12, 14, 15] [27, 29] S S := gI_rf
  refine (?_ : jf (gI [2, 10, 11, 12, 14, 15] [27, 29] S) Prod.snd (f_X5_closeCond S)) _ h
  unfold f_X5_closeCond
  refine f_bpS (fun _ h => gI_tr hS (w_X5_release h) (by decide) (by decide)) (fun S1 hS1 => ?_)
  refine f_ite ?_ ?_
  · refine f_bpS (fun _ h => gI_tr hS1 (w_X5_endPart h) (by decide) (by decide)) (fun S2 hS2 => ?_)
    refine f_bpS (fun _ h => gI_tr hS2 (w_X10_step h) (by decide) (by decide)) (fun S3 hS3 => ?_)
    refine f_ltS (gI_ci hS3 (by decide)) (fun S4 hS4 => ?_)
    exact f_some hS4
  · exact f_some hS1
abbrev rm_X5_readBehindTest : Room := { frames := 3, cells := 0, slots := 0, locals := 62 }
theorem kY_X5_readBehindTest : kY yX5_readBehindTest cX5_readBehindTest 2 (some .boolean) 1 := ⟨kw_1_7, kw_3_182, by decide, by decide, by decide +kernel⟩
def f_X5_readBehindTest (S : CS) (a1 : Int32) : Option (Bool × CS) :=
  jn0 (bp (f_X5_strengthOf a1) (fun x1 =>
  bp (f_X5_release S x1) (fun S2 =>
  bw (f_X5_await S2 a1 0) (fun x3 S4 =>
  some (x3, S4))))) (fun k5 =>
  (if a1 = 38 then
  k5
 else
  (if a1 = 41 then
  bw (f_X5_closeBracket S) (fun x7 S8 =>
  some (x7, S8))
 else
  (if a1 = 59 then
  bw (f_X5_closeCond S) (fun x9 S10 =>
  some (x9, S10))
 else
  (if a1 = 124 then
  k5
 else
  some (false, S))))))
set_option maxRecDepth 100000 in
set_option maxHeartbeats 4000000 in
theorem c_X5_readBehindTest {g : KG} {q : Nat → Nat} {E : va_W} {S : CS} {a1 : Int32} {r : Bool} {S' : CS} (h : f_X5_readBehindTest S a1 = some (r, S')) : ∀ l, kM l yX5_readBehindTest cX5_readBehindTest 2 (some .boolean) rm_X5_readBehindTest g [.ref (q 26), .int a1] (cx g q E S) (cx g q E S') (some (.int (b2 r))) 0 0 := by
  refine k_open_z (own := "MarkChains$FormulaReader") (by decide) rfl (Nat.le_of_ble_eq_true rfl) (fun X C hR => ?_)
  refine (?_ : jJ X g ((r, S') : Bool × CS) (cx g q E S) 0 0 0 [(0, .ref (q 26)), (1, .int a1)] [] (f_X5_readBehindTest S a1)) h
  unfold f_X5_readBehindTest
  refine r_iload_n (pc := 0) C dX5_readBehindTest_0 1 rfl ?_
  refine r_jn0 44 (cx g q E S) ([(0, .ref (q 26)), (1, .int a1)]) ([]) ?_ (fun k5 hk6 => ?_)
  · refine r_aload_n (pc := 44) C dX5_readBehindTest_44 0 rfl ?_
    refine r_iload_n (pc := 45) C dX5_readBehindTest_45 1 rfl ?_
    refine r_cSpi (As := [.int a1]) (st := [.ref (q 26)]) (pc := 46) C (fun _ h => c_X5_strengthOf h) kY_X5_strengthOf kw_3_169 kw_3_168 rfl ⟨Nat.le_of_ble_eq_true rfl, Nat.le_of_ble_eq_true rfl⟩ rfl rfl ⟨Nat.zero_le _, Nat.zero_le _⟩ rfl (Nat.le_of_ble_eq_true rfl) dX5_readBehindTest_46 (fun x1 => ?_)
    refine r_cVwv (As := [.int x1]) (st := []) (wf := cx g q E) (pc := 49) C (fun _ h => c_X5_release h) kY_X5_release kw_3_173 kw_0_12 kw_3_171 rfl ⟨Nat.le_of_ble_eq_true rfl, Nat.le_of_ble_eq_true rfl⟩ rfl rfl ⟨Nat.zero_le _, Nat.zero_le _⟩ 26 rfl rfl rfl (Nat.le_of_ble_eq_true rfl) dX5_readBehindTest_49 (fun S2 => ?_)
    refine r_aload_n (pc := 52) C dX5_readBehindTest_52 0 rfl ?_
    refine r_iload_n (pc := 53) C dX5_readBehindTest_53 1 rfl ?_
    refine r_iconst (pc := 54) C dX5_readBehindTest_54 (v := 0) (by decide) ?_
    refine r_cVwz (As := [.int a1, .int 0]) (st := []) (wf := cx g q E) (pc := 55) C (fun _ _ h => c_X5_await h) kY_X5_await kw_3_162 kw_0_10 kw_3_160 rfl ⟨Nat.le_of_ble_eq_true rfl, Nat.le_of_ble_eq_true rfl⟩ rfl rfl ⟨Nat.zero_le _, Nat.zero_le _⟩ 26 rfl rfl rfl (Nat.le_of_ble_eq_true rfl) dX5_readBehindTest_55 (fun x3 S4 => ?_)
    exact r_retWZ hR rfl (pc := 58) dX5_readBehindTest_58
  · refine r_case (fun h1_0 => ?_) (fun h1_0 => ?_)
    · refine r_lookIn (off := 43) 44 (pc := 1) C dX5_readBehindTest_1 h1_0 (by decide) (by decide) (by decide) ?_
      exact hk6
    · refine r_case (fun h1_1 => ?_) (fun h1_1 => ?_)
      · refine r_lookIn (off := 58) 59 (pc := 1) C dX5_readBehindTest_1 h1_1 (by decide) (by decide) (by decide) ?_
        refine r_aload_n (pc := 59) C dX5_readBehindTest_59 0 rfl ?_
        refine r_cVwz (As := []) (st := []) (wf := cx g q E) (pc := 60) C (fun _ _ h => c_X5_closeBracket h) kY_X5_closeBracket kw_3_185 kw_0_15 kw_3_183 rfl ⟨Nat.le_of_ble_eq_true rfl, Nat.le_of_ble_eq_true rfl⟩ rfl rfl ⟨Nat.zero_le _, Nat.zero_le _⟩ 26 rfl rfl rfl (Nat.le_of_ble_eq_true rfl) dX5_readBehindTest_60 (fun x7 S8 => ?_)
        exact r_retWZ hR rfl (pc := 63) dX5_readBehindTest_63
      · refine r_case (fun h1_2 => ?_) (fun h1_2 => ?_)
        · refine r_lookIn (off := 63) 64 (pc := 1) C dX5_readBehindTest_1 h1_2 (by decide) (by decide) (by decide) ?_
          refine r_aload_n (pc := 64) C dX5_readBehindTest_64 0 rfl ?_
          refine r_cVwz (As := []) (st := []) (wf := cx g q E) (pc := 65) C (fun _ _ h => c_X5_closeCond h) kY_X5_closeCond kw_3_189 kw_0_16 kw_3_187 rfl ⟨Nat.le_of_ble_eq_true rfl, Nat.le_of_ble_eq_true rfl⟩ rfl rfl ⟨Nat.zero_le _, Nat.zero_le _⟩ 26 rfl rfl rfl (Nat.le_of_ble_eq_true rfl) dX5_readBehindTest_65 (fun x9 S10 => ?_)
          exact r_retWZ hR rfl (pc := 68) dX5_readBehindTest_68
        · refine r_case (fun h1_3 => ?_) (fun h1_3 => ?_)
          · refine r_lookIn (off := 43) 44 (pc := 1) C dX5_readBehindTest_1 h1_3 (by decide) (by decide) (by decide) ?_
            exact hk6
          · refine r_look (off := 68) 69 (pc := 1) C dX5_readBehindTest_1 (by decide) (by rw [show (#[(38, 43), (41, 58), (59, 63), (124, 43)] : Array (Int × Int)).toList = [(38, 43), (41, 58), (59, 63), (124, 43)] from rfl, lv_osw h1_0 (by decide), lv_osw h1_1 (by decide), lv_osw h1_2 (by decide), lv_osw h1_3 (by decide)]; rfl) (by decide) ?_
            refine r_iconst (pc := 69) C dX5_readBehindTest_69 (v := 0) (by decide) ?_
            exact r_retWZ hR rfl (pc := 70) dX5_readBehindTest_70
set_option maxRecDepth 100000 in
theorem w_X5_readBehindTest {S : CS} {a1 : Int32} {r : Bool} {S' : CS} (h : f_X5_readBehindTest S a1 = some (r, S')) : gI [2, 10, 11, 12, 14, 15] [27, 28, 29] S S' := by
  have hS : gI [2, 10, 11, 12, 14, 15] [27, 28, 29] S S := gI_rf
  refine (?_ : jf (gI [2, 10, 11, 12, 14, 15] [27, 28, 29] S) Prod.snd (f_X5_readBehindTest S a1)) _ h
  unfold f_X5_readBehindTest
  refine f_jm0 hS (fun  hS => ?_) (fun k5 hk6 => ?_)
  · refine f_bp (fun x1 => ?_)
    refine f_bpS (fun _ h => gI_tr hS (w_X5_release h) (by decide) (by decide)) (fun S2 hS2 => ?_)
    refine f_bwS (fun _ _ h => gI_tr hS2 (w_X5_await h) (by decide) (by decide)) (fun x3 S4 hS4 => ?_)
    exact f_some hS4
  · refine f_ite ?_ ?_
    · exact hk6 hS
    · refine f_ite ?_ ?_
      · refine f_bwS (fun _ _ h => gI_tr hS (w_X5_closeBracket h) (by decide) (by decide)) (fun x7 S8 hS8 => ?_)
        exact f_some hS8
      · refine f_ite ?_ ?_
        · refine f_bwS (fun _ _ h => gI_tr hS (w_X5_closeCond h) (by decide) (by decide)) (fun x9 S10 hS10 => ?_)
          exact f_some hS10
        · refine f_ite ?_ ?_
          · exact hk6 hS
          · exact f_some hS
