abbrev rm_X4_valueOf_sf : Room := { frames := 2, cells := 0, slots := 0, locals := 44 }
def L_X4_valueOf_sf_38 (c1 : Int32) (c3 : Int32) (c4 : Int32) (k7 : CS → Option (Int32 × CS)) : Nat → CS → Int32 → Option (Int32 × CS) := lo2 fun rec5 S4 x3 =>
  chk c1 (S4.2.2 51) (
  (if (S4.2.1 51 c1.toNatClampNeg) ≤ x3 then
  k7 S4
 else
  (if (nI (S4.2.2 50)) ≤ x3 then
  k7 S4
 else
  chk x3 (S4.2.2 50) (
  lt (-(S4.2.1 50 x3.toNatClampNeg)) fun x9 =>
  (if 0 < x9 then
  jn0 ((if x9 = 33 then
  bw (f_X4_pop_sf S4) (fun x17 S18 =>
  (if x17 = 0 then
  bp (f_X4_push_sf S18 1) (fun S21 =>
  lt (x3 + 1) fun x22 =>
  rec5 S21 x22)
 else
  bp (f_X4_push_sf S18 0) (fun S19 =>
  lt (x3 + 1) fun x20 =>
  rec5 S19 x20)))
 else
  bw (f_X4_pop_sf S4) (fun x10 S11 =>
  bw (f_X4_pop_sf S11) (fun x12 S13 =>
  bp (f_X4_joined x9 x12 x10) (fun x14 =>
  bp (f_X4_push_sf S13 x14) (fun S15 =>
  lt (x3 + 1) fun x16 =>
  rec5 S15 x16)))))) (fun k23 =>
  (if x9 < 97 then
  k23
 else
  (if 122 < x9 then
  k23
 else
  bp (f_X1_thingOf S4 c3 x9 c4) (fun x25 =>
  bp (f_X4_push_sf S4 x25) (fun S26 =>
  lt (x3 + 1) fun x27 =>
  rec5 S26 x27)))))
 else
  chk x3 (S4.2.2 50) (
  bp (f_X4_push_sf S4 (S4.2.1 50 x3.toNatClampNeg)) (fun S28 =>
  lt (x3 + 1) fun x29 =>
  rec5 S28 x29)))))))
set_option maxRecDepth 100000 in
set_option maxHeartbeats 4000000 in
theorem l_X4_valueOf_sf_38 {X : KX} {g : KG} {q : Nat → Nat} {E : va_W} {res : Int32 × CS} (C : kC X g cX4_valueOf "MarkChains$Formula" rm_X4_valueOf_sf 8) (hR : ∀ (pc : Nat) (lv : List (Nat × Value)), decode cX4_valueOf pc = .ok (.ireturn, 1) → jW X g (cx g q E res.2) 0 0 pc lv [.int res.1]) (c1 : Int32) (c3 : Int32) (c4 : Int32) (k7 : CS → Option (Int32 × CS)) (hk8 : ∀ (S30 : CS), jJ X g res (cx g q E S30) 0 0 171 [(0, .ref (q 49))] [] (k7 S30)) : ∀ (n : Nat) (S4 : CS) (x3 : Int32), jJ X g res (cx g q E S4) 0 0 38 [(0, .ref (q 49)), (1, .int c1), (2, .ref (q 3)), (3, .int c3), (4, .int c4), (5, .int x3)] [] (L_X4_valueOf_sf_38 c1 c3 c4 k7 n S4 x3) := by
  refine r_lo2 (fun S4 x3 => cx g q E S4) (fun S4 x3 => [(0, .ref (q 49)), (1, .int c1), (2, .ref (q 3)), (3, .int c3), (4, .int c4), (5, .int x3)]) (fun rec5 ih6 S4 x3 => ?_)
  refine r_iload (pc := 38) C dX4_valueOf_38 5 rfl ?_
  refine r_aload_n (pc := 40) C dX4_valueOf_40 0 rfl ?_
  refine xg_sf_ends (pc := 41) C kw_2_62 dX4_valueOf_41 ?_
  refine r_iload_n (pc := 44) C dX4_valueOf_44 1 rfl ?_
  refine xl_sf_ends (pc := 45) C dX4_valueOf_45 ?_
  refine r_icmp_ge 171 (pc := 46) C dX4_valueOf_46 (by decide) ?_ ?_
  · refine r_sub (lv' := [(0, .ref (q 49))]) [0] rfl ?_
    exact hk8 S4
  · refine r_iload (pc := 49) C dX4_valueOf_49 5 rfl ?_
    refine r_aload_n (pc := 51) C dX4_valueOf_51 0 rfl ?_
    refine xg_sf_code (pc := 52) C kw_2_61 dX4_valueOf_52 ?_
    refine xn_sf_code (pc := 55) C dX4_valueOf_55 ?_
    refine r_icmp_ge 171 (pc := 56) C dX4_valueOf_56 (by decide) ?_ ?_
    · refine r_sub (lv' := [(0, .ref (q 49))]) [0] rfl ?_
      exact hk8 S4
    · refine r_aload_n (pc := 59) C dX4_valueOf_59 0 rfl ?_
      refine xg_sf_code (pc := 60) C kw_2_61 dX4_valueOf_60 ?_
      refine r_iload (pc := 63) C dX4_valueOf_63 5 rfl ?_
      refine xl_sf_code (pc := 65) C dX4_valueOf_65 ?_
      refine r_ineg (pc := 66) C dX4_valueOf_66 ?_
      refine r_istoreV (pc := 67) C dX4_valueOf_67 (lv' := fun x9 => [(0, .ref (q 49)), (1, .int c1), (2, .ref (q 3)), (3, .int c3), (4, .int c4), (5, .int x3), (6, .int x9)]) (by decide) [1, 2, 3, 4, 5, 6, 0] (fun _ => rfl) (fun x9 => ?_)
      refine r_iload (pc := 69) C dX4_valueOf_69 6 rfl ?_
      refine r_if_gt 88 (pc := 71) C dX4_valueOf_71 (by decide) ?_ ?_
      · refine r_iload (pc := 88) C dX4_valueOf_88 6 rfl ?_
        refine r_bipush (pc := 90) C dX4_valueOf_90 (v := 97) (by decide) ?_
        refine r_jn0 118 (cx g q E S4) ([(0, .ref (q 49)), (1, .int c1), (2, .ref (q 3)), (3, .int c3), (4, .int c4), (5, .int x3), (6, .int x9)]) ([]) ?_ (fun k23 hk24 => ?_)
        · refine r_iload (pc := 118) C dX4_valueOf_118 6 rfl ?_
          refine r_bipush (pc := 120) C dX4_valueOf_120 (v := 33) (by decide) ?_
          refine r_icmp_ne 144 (pc := 122) C dX4_valueOf_122 (by decide) ?_ ?_
          · refine r_aload_n (pc := 144) C dX4_valueOf_144 0 rfl ?_
            refine r_cVwi (As := []) (st := []) (wf := cx g q E) (pc := 145) C (fun _ _ h => c_X4_pop_sf h) kY_X4_pop kw_4_30 kw_0_22 kw_4_28 rfl ⟨Nat.le_of_ble_eq_true rfl, Nat.le_of_ble_eq_true rfl⟩ rfl rfl ⟨Nat.zero_le _, Nat.zero_le _⟩ 48 rfl rfl rfl (Nat.le_of_ble_eq_true rfl) dX4_valueOf_145 (fun x10 S11 => ?_)
            refine r_istore (pc := 148) C dX4_valueOf_148 (lv' := [(0, .ref (q 49)), (1, .int c1), (2, .ref (q 3)), (3, .int c3), (4, .int c4), (5, .int x3), (6, .int x9), (7, .int x10)]) (by decide) [1, 2, 3, 4, 5, 6, 7, 0] rfl ?_
            refine r_aload_n (pc := 150) C dX4_valueOf_150 0 rfl ?_
            refine r_iload (pc := 151) C dX4_valueOf_151 6 rfl ?_
            refine r_aload_n (pc := 153) C dX4_valueOf_153 0 rfl ?_
            refine r_cVwi (As := []) (st := [.int x9, .ref (q 49)]) (wf := cx g q E) (pc := 154) C (fun _ _ h => c_X4_pop_sf h) kY_X4_pop kw_4_30 kw_0_22 kw_4_28 rfl ⟨Nat.le_of_ble_eq_true rfl, Nat.le_of_ble_eq_true rfl⟩ rfl rfl ⟨Nat.zero_le _, Nat.zero_le _⟩ 48 rfl rfl rfl (Nat.le_of_ble_eq_true rfl) dX4_valueOf_154 (fun x12 S13 => ?_)
            refine r_iload (pc := 157) C dX4_valueOf_157 7 rfl ?_
            refine r_cSpi (As := [.int x9, .int x12, .int x10]) (st := [.ref (q 49)]) (pc := 159) C (fun _ h => c_X4_joined h) kY_X4_joined kw_4_33 kw_4_32 rfl ⟨Nat.le_of_ble_eq_true rfl, Nat.le_of_ble_eq_true rfl⟩ rfl rfl ⟨Nat.zero_le _, Nat.zero_le _⟩ rfl (Nat.le_of_ble_eq_true rfl) dX4_valueOf_159 (fun x14 => ?_)
            refine r_cVwv (As := [.int x14]) (st := []) (wf := cx g q E) (pc := 162) C (fun _ h => c_X4_push_sf h) kY_X4_push kw_4_18 kw_0_21 kw_4_16 rfl ⟨Nat.le_of_ble_eq_true rfl, Nat.le_of_ble_eq_true rfl⟩ rfl rfl ⟨Nat.zero_le _, Nat.zero_le _⟩ 48 rfl rfl rfl (Nat.le_of_ble_eq_true rfl) dX4_valueOf_162 (fun S15 => ?_)
            refine r_iinc (pc := 165) C dX4_valueOf_165 (v := 1) (lv' := fun x16 => [(0, .ref (q 49)), (1, .int c1), (2, .ref (q 3)), (3, .int c3), (4, .int c4), (5, .int x16), (6, .int x9), (7, .int x10)]) 5 rfl (by decide) (by decide) [1, 2, 3, 4, 5, 0, 6, 7] (fun _ => rfl) (fun x16 => ?_)
            refine r_goto 38 (pc := 168) C dX4_valueOf_168 (by decide) ?_
            refine r_sub (lv' := [(0, .ref (q 49)), (1, .int c1), (2, .ref (q 3)), (3, .int c3), (4, .int c4), (5, .int x16)]) [0, 1, 2, 3, 4, 5] rfl ?_
            exact ih6 S15 x16
          · refine r_aload_n (pc := 125) C dX4_valueOf_125 0 rfl ?_
            refine r_aload_n (pc := 126) C dX4_valueOf_126 0 rfl ?_
            refine r_cVwi (As := []) (st := [.ref (q 49)]) (wf := cx g q E) (pc := 127) C (fun _ _ h => c_X4_pop_sf h) kY_X4_pop kw_4_30 kw_0_22 kw_4_28 rfl ⟨Nat.le_of_ble_eq_true rfl, Nat.le_of_ble_eq_true rfl⟩ rfl rfl ⟨Nat.zero_le _, Nat.zero_le _⟩ 48 rfl rfl rfl (Nat.le_of_ble_eq_true rfl) dX4_valueOf_127 (fun x17 S18 => ?_)
            refine r_if_ne 137 (pc := 130) C dX4_valueOf_130 (by decide) ?_ ?_
            · refine r_iconst (pc := 137) C dX4_valueOf_137 (v := 0) (by decide) ?_
              refine r_cVwv (As := [.int 0]) (st := []) (wf := cx g q E) (pc := 138) C (fun _ h => c_X4_push_sf h) kY_X4_push kw_4_18 kw_0_21 kw_4_16 rfl ⟨Nat.le_of_ble_eq_true rfl, Nat.le_of_ble_eq_true rfl⟩ rfl rfl ⟨Nat.zero_le _, Nat.zero_le _⟩ 48 rfl rfl rfl (Nat.le_of_ble_eq_true rfl) dX4_valueOf_138 (fun S19 => ?_)
              refine r_goto 165 (pc := 141) C dX4_valueOf_141 (by decide) ?_
              refine r_iinc (pc := 165) C dX4_valueOf_165 (v := 1) (lv' := fun x20 => [(0, .ref (q 49)), (1, .int c1), (2, .ref (q 3)), (3, .int c3), (4, .int c4), (5, .int x20), (6, .int x9)]) 5 rfl (by decide) (by decide) [1, 2, 3, 4, 5, 0, 6] (fun _ => rfl) (fun x20 => ?_)
              refine r_goto 38 (pc := 168) C dX4_valueOf_168 (by decide) ?_
              refine r_sub (lv' := [(0, .ref (q 49)), (1, .int c1), (2, .ref (q 3)), (3, .int c3), (4, .int c4), (5, .int x20)]) [0, 1, 2, 3, 4, 5] rfl ?_
              exact ih6 S19 x20
            · refine r_iconst (pc := 133) C dX4_valueOf_133 (v := 1) (by decide) ?_
              refine r_goto 138 (pc := 134) C dX4_valueOf_134 (by decide) ?_
              refine r_cVwv (As := [.int 1]) (st := []) (wf := cx g q E) (pc := 138) C (fun _ h => c_X4_push_sf h) kY_X4_push kw_4_18 kw_0_21 kw_4_16 rfl ⟨Nat.le_of_ble_eq_true rfl, Nat.le_of_ble_eq_true rfl⟩ rfl rfl ⟨Nat.zero_le _, Nat.zero_le _⟩ 48 rfl rfl rfl (Nat.le_of_ble_eq_true rfl) dX4_valueOf_138 (fun S21 => ?_)
              refine r_goto 165 (pc := 141) C dX4_valueOf_141 (by decide) ?_
              refine r_iinc (pc := 165) C dX4_valueOf_165 (v := 1) (lv' := fun x22 => [(0, .ref (q 49)), (1, .int c1), (2, .ref (q 3)), (3, .int c3), (4, .int c4), (5, .int x22), (6, .int x9)]) 5 rfl (by decide) (by decide) [1, 2, 3, 4, 5, 0, 6] (fun _ => rfl) (fun x22 => ?_)
              refine r_goto 38 (pc := 168) C dX4_valueOf_168 (by decide) ?_
              refine r_sub (lv' := [(0, .ref (q 49)), (1, .int c1), (2, .ref (q 3)), (3, .int c3), (4, .int c4), (5, .int x22)]) [0, 1, 2, 3, 4, 5] rfl ?_
              exact ih6 S21 x22
        · refine r_icmp_lt 118 (pc := 92) C dX4_valueOf_92 (by decide) ?_ ?_
          · exact hk24
          · refine r_iload (pc := 95) C dX4_valueOf_95 6 rfl ?_
            refine r_bipush (pc := 97) C dX4_valueOf_97 (v := 122) (by decide) ?_
            refine r_icmp_gt 118 (pc := 99) C dX4_valueOf_99 (by decide) ?_ ?_
            · exact hk24
            · refine r_aload_n (pc := 102) C dX4_valueOf_102 0 rfl ?_
              refine r_aload_n (pc := 103) C dX4_valueOf_103 2 rfl ?_
              refine r_iload_n (pc := 104) C dX4_valueOf_104 3 rfl ?_
              refine r_iload (pc := 105) C dX4_valueOf_105 6 rfl ?_
              refine r_iload (pc := 107) C dX4_valueOf_107 4 rfl ?_
              refine r_cVpi (As := [.int c3, .int x9, .int c4]) (st := [.ref (q 49)]) (pc := 109) C (fun _ h => c_X1_thingOf h) kY_X1_thingOf kw_4_21 kw_4_22 kw_4_20 rfl ⟨Nat.le_of_ble_eq_true rfl, Nat.le_of_ble_eq_true rfl⟩ rfl rfl ⟨Nat.zero_le _, Nat.zero_le _⟩ 3 rfl rfl rfl (Nat.le_of_ble_eq_true rfl) dX4_valueOf_109 (fun x25 => ?_)
              refine r_cVwv (As := [.int x25]) (st := []) (wf := cx g q E) (pc := 112) C (fun _ h => c_X4_push_sf h) kY_X4_push kw_4_18 kw_0_21 kw_4_16 rfl ⟨Nat.le_of_ble_eq_true rfl, Nat.le_of_ble_eq_true rfl⟩ rfl rfl ⟨Nat.zero_le _, Nat.zero_le _⟩ 48 rfl rfl rfl (Nat.le_of_ble_eq_true rfl) dX4_valueOf_112 (fun S26 => ?_)
              refine r_goto 165 (pc := 115) C dX4_valueOf_115 (by decide) ?_
              refine r_iinc (pc := 165) C dX4_valueOf_165 (v := 1) (lv' := fun x27 => [(0, .ref (q 49)), (1, .int c1), (2, .ref (q 3)), (3, .int c3), (4, .int c4), (5, .int x27), (6, .int x9)]) 5 rfl (by decide) (by decide) [1, 2, 3, 4, 5, 0, 6] (fun _ => rfl) (fun x27 => ?_)
              refine r_goto 38 (pc := 168) C dX4_valueOf_168 (by decide) ?_
              refine r_sub (lv' := [(0, .ref (q 49)), (1, .int c1), (2, .ref (q 3)), (3, .int c3), (4, .int c4), (5, .int x27)]) [0, 1, 2, 3, 4, 5] rfl ?_
              exact ih6 S26 x27
      · refine r_aload_n (pc := 74) C dX4_valueOf_74 0 rfl ?_
        refine r_aload_n (pc := 75) C dX4_valueOf_75 0 rfl ?_
        refine xg_sf_code (pc := 76) C kw_2_61 dX4_valueOf_76 ?_
        refine r_iload (pc := 79) C dX4_valueOf_79 5 rfl ?_
        refine xl_sf_code (pc := 81) C dX4_valueOf_81 ?_
        refine r_cVwv (As := [.int (S4.2.1 50 x3.toNatClampNeg)]) (st := []) (wf := cx g q E) (pc := 82) C (fun _ h => c_X4_push_sf h) kY_X4_push kw_4_18 kw_0_21 kw_4_16 rfl ⟨Nat.le_of_ble_eq_true rfl, Nat.le_of_ble_eq_true rfl⟩ rfl rfl ⟨Nat.zero_le _, Nat.zero_le _⟩ 48 rfl rfl rfl (Nat.le_of_ble_eq_true rfl) dX4_valueOf_82 (fun S28 => ?_)
        refine r_goto 165 (pc := 85) C dX4_valueOf_85 (by decide) ?_
        refine r_iinc (pc := 165) C dX4_valueOf_165 (v := 1) (lv' := fun x29 => [(0, .ref (q 49)), (1, .int c1), (2, .ref (q 3)), (3, .int c3), (4, .int c4), (5, .int x29), (6, .int x9)]) 5 rfl (by decide) (by decide) [1, 2, 3, 4, 5, 0, 6] (fun _ => rfl) (fun x29 => ?_)
        refine r_goto 38 (pc := 168) C dX4_valueOf_168 (by decide) ?_
        refine r_sub (lv' := [(0, .ref (q 49)), (1, .int c1), (2, .ref (q 3)), (3, .int c3), (4, .int c4), (5, .int x29)]) [0, 1, 2, 3, 4, 5] rfl ?_
        exact ih6 S28 x29
set_option maxRecDepth 100000 in
theorem v_X4_valueOf_sf_38 {S0 : CS} {c1 : Int32} {c3 : Int32} {c4 : Int32} {k7 : CS → Option (Int32 × CS)} (hk8 : ∀ (S30 : CS), (gI [25] [52] S0) S30 → jf (gI [25] [52] S0) Prod.snd (k7 S30)) : ∀ (n : Nat) (S4 : CS) (x3 : Int32), (gI [25] [52] S0) S4 → jf (gI [25] [52] S0) Prod.snd (L_X4_valueOf_sf_38 c1 c3 c4 k7 n S4 x3) := by
  refine f_lo2 (I := (gI [25] [52] S0)) (fun S4 x3 => S4) (fun rec5 ih6 S4 x3 hS4 => ?_)
  refine f_chk ?_
  refine f_ite ?_ ?_
  · exact hk8 S4 hS4
  · refine f_ite ?_ ?_
    · exact hk8 S4 hS4
    · refine f_chk ?_
      refine f_lt (fun x9 => ?_)
      refine f_ite ?_ ?_
      · refine f_jm0 hS4 (fun  hS4 => ?_) (fun k23 hk24 => ?_)
        · refine f_ite ?_ ?_
          · refine f_bwS (fun _ _ h => gI_tr hS4 (w_X4_pop_sf h) (by decide) (by decide)) (fun x17 S18 hS18 => ?_)
            refine f_ite ?_ ?_
            · refine f_bpS (fun _ h => gI_tr hS18 (w_X4_push_sf h) (by decide) (by decide)) (fun S21 hS21 => ?_)
              refine f_lt (fun x22 => ?_)
              exact ih6 S21 x22 hS21
            · refine f_bpS (fun _ h => gI_tr hS18 (w_X4_push_sf h) (by decide) (by decide)) (fun S19 hS19 => ?_)
              refine f_lt (fun x20 => ?_)
              exact ih6 S19 x20 hS19
          · refine f_bwS (fun _ _ h => gI_tr hS4 (w_X4_pop_sf h) (by decide) (by decide)) (fun x10 S11 hS11 => ?_)
            refine f_bwS (fun _ _ h => gI_tr hS11 (w_X4_pop_sf h) (by decide) (by decide)) (fun x12 S13 hS13 => ?_)
            refine f_bp (fun x14 => ?_)
            refine f_bpS (fun _ h => gI_tr hS13 (w_X4_push_sf h) (by decide) (by decide)) (fun S15 hS15 => ?_)
            refine f_lt (fun x16 => ?_)
            exact ih6 S15 x16 hS15
        · refine f_ite ?_ ?_
          · exact hk24 hS4
          · refine f_ite ?_ ?_
            · exact hk24 hS4
            · refine f_bp (fun x25 => ?_)
              refine f_bpS (fun _ h => gI_tr hS4 (w_X4_push_sf h) (by decide) (by decide)) (fun S26 hS26 => ?_)
              refine f_lt (fun x27 => ?_)
              exact ih6 S26 x27 hS26
      · refine f_chk ?_
        refine f_bpS (fun _ h => gI_tr hS4 (w_X4_push_sf h) (by decide) (by decide)) (fun S28 hS28 => ?_)
        refine f_lt (fun x29 => ?_)
        exact ih6 S28 x29 hS28
def f_X4_valueOf_sf (S : CS) (a1 : Int32) (a3 : Int32) (a4 : Int32) : Option (Int32 × CS) :=
  (if a1 < 0 then
  some (0, S)
 else
  (if a1 < (nI (S.2.2 51)) then
  lt (ci S 25 0) fun S1 =>
  jn1 (fun (x2 : Int32) =>
  L_X4_valueOf_sf_38 a1 a3 a4 (fun S31 =>
  bw (f_X4_pop_sf S31) (fun x32 S33 =>
  some (x32, S33))) FU S1 x2) (fun k34 =>
  (if a1 = 0 then
  k34 0
 else
  chk (a1 - 1) (S1.2.2 51) (
  k34 (S1.2.1 51 (a1 - 1).toNatClampNeg))))
 else
  some (0, S)))
set_option maxRecDepth 100000 in
set_option maxHeartbeats 4000000 in
theorem c_X4_valueOf_sf {g : KG} {q : Nat → Nat} {E : va_W} {S : CS} {a1 : Int32} {a3 : Int32} {a4 : Int32} {r : Int32} {S' : CS} (h : f_X4_valueOf_sf S a1 a3 a4 = some (r, S')) : ∀ l, kM l yX4_valueOf cX4_valueOf 8 (some .int) rm_X4_valueOf_sf g [.ref (q 49), .int a1, .ref (q 3), .int a3, .int a4] (cx g q E S) (cx g q E S') (some (.int r)) 0 0 := by
  refine k_open_i (own := "MarkChains$Formula") (by decide) rfl (Nat.le_of_ble_eq_true rfl) (fun X C hR => ?_)
  refine (?_ : jJ X g ((r, S') : Int32 × CS) (cx g q E S) 0 0 0 [(0, .ref (q 49)), (1, .int a1), (2, .ref (q 3)), (3, .int a3), (4, .int a4)] [] (f_X4_valueOf_sf S a1 a3 a4)) h
  unfold f_X4_valueOf_sf
  refine r_iload_n (pc := 0) C dX4_valueOf_0 1 rfl ?_
  refine r_if_lt 13 (pc := 1) C dX4_valueOf_1 (by decide) ?_ ?_
  · refine r_iconst (pc := 13) C dX4_valueOf_13 (v := 0) (by decide) ?_
    exact r_retWI (wf := cx g q E) hR (pc := 14) dX4_valueOf_14
  · refine r_iload_n (pc := 4) C dX4_valueOf_4 1 rfl ?_
    refine r_aload_n (pc := 5) C dX4_valueOf_5 0 rfl ?_
    refine xg_sf_ends (pc := 6) C kw_2_62 dX4_valueOf_6 ?_
    refine xn_sf_ends (pc := 9) C dX4_valueOf_9 ?_
    refine r_icmp_lt 15 (pc := 10) C dX4_valueOf_10 (by decide) ?_ ?_
    · refine r_aload_n (pc := 15) C dX4_valueOf_15 0 rfl ?_
      refine r_iconst (pc := 16) C dX4_valueOf_16 (v := 0) (by decide) ?_
      refine xp_sf_height (pc := 17) C kw_2_64 dX4_valueOf_17 (fun S1 => ?_)
      refine r_iload_n (pc := 20) C dX4_valueOf_20 1 rfl ?_
      refine r_jn1 36 (fun (x2 : Int32) => cx g q E S1) (fun (x2 : Int32) => [(0, .ref (q 49)), (1, .int a1), (2, .ref (q 3)), (3, .int a3), (4, .int a4)]) (fun (x2 : Int32) => [.int x2]) (fun x2 => ?_) (fun k34 hk35 => ?_)
      · refine r_istore (pc := 36) C dX4_valueOf_36 (lv' := [(0, .ref (q 49)), (1, .int a1), (2, .ref (q 3)), (3, .int a3), (4, .int a4), (5, .int x2)]) (by decide) [1, 2, 3, 4, 5, 0] rfl ?_
        refine l_X4_valueOf_sf_38 C hR a1 a3 a4 _ (fun S31 => ?_) FU S1 x2
        refine r_aload_n (pc := 171) C dX4_valueOf_171 0 rfl ?_
        refine r_cVwi (As := []) (st := []) (wf := cx g q E) (pc := 172) C (fun _ _ h => c_X4_pop_sf h) kY_X4_pop kw_4_30 kw_0_22 kw_4_28 rfl ⟨Nat.le_of_ble_eq_true rfl, Nat.le_of_ble_eq_true rfl⟩ rfl rfl ⟨Nat.zero_le _, Nat.zero_le _⟩ 48 rfl rfl rfl (Nat.le_of_ble_eq_true rfl) dX4_valueOf_172 (fun x32 S33 => ?_)
        exact r_retWI (wf := cx g q E) hR (pc := 175) dX4_valueOf_175
      · refine r_if_ne 28 (pc := 21) C dX4_valueOf_21 (by decide) ?_ ?_
        · refine r_aload_n (pc := 28) C dX4_valueOf_28 0 rfl ?_
          refine xg_sf_ends (pc := 29) C kw_2_62 dX4_valueOf_29 ?_
          refine r_iload_n (pc := 32) C dX4_valueOf_32 1 rfl ?_
          refine r_iconst (pc := 33) C dX4_valueOf_33 (v := 1) (by decide) ?_
          refine r_isub (pc := 34) C dX4_valueOf_34 ?_
          refine xl_sf_ends (pc := 35) C dX4_valueOf_35 ?_
          exact hk35 (S1.2.1 51 (a1 - 1).toNatClampNeg)
        · refine r_iconst (pc := 24) C dX4_valueOf_24 (v := 0) (by decide) ?_
          refine r_goto 36 (pc := 25) C dX4_valueOf_25 (by decide) ?_
          exact hk35 0
    · refine r_iconst (pc := 13) C dX4_valueOf_13 (v := 0) (by decide) ?_
      exact r_retWI (wf := cx g q E) hR (pc := 14) dX4_valueOf_14
set_option maxRecDepth 100000 in
theorem w_X4_valueOf_sf {S : CS} {a1 : Int32} {a3 : Int32} {a4 : Int32} {r : Int32} {S' : CS} (h : f_X4_valueOf_sf S a1 a3 a4 = some (r, S')) : gI [25] [52] S S' := by
  have hS : gI [25] [52] S S := gI_rf
  refine (?_ : jf (gI [25] [52] S) Prod.snd (f_X4_valueOf_sf S a1 a3 a4)) _ h
  unfold f_X4_valueOf_sf
  refine f_ite ?_ ?_
  · exact f_some hS
  · refine f_ite ?_ ?_
    · refine f_ltS (gI_ci hS (by decide)) (fun S1 hS1 => ?_)
      refine f_jm1 hS1 (fun x2 hS1 => ?_) (fun k34 hk35 => ?_)
      · refine v_X4_valueOf_sf_38 (fun S31 hS31 => ?_) FU S1 x2 hS1
        refine f_bwS (fun _ _ h => gI_tr hS31 (w_X4_pop_sf h) (by decide) (by decide)) (fun x32 S33 hS33 => ?_)
        exact f_some hS33
      · refine f_ite ?_ ?_
        · exact hk35 0 hS1
        · refine f_chk ?_
          exact hk35 (S1.2.1 51 (a1 - 1).toNatClampNeg) hS1
    · exact f_some hS
abbrev rm_X11_pointsOf : Room := { frames := 3, cells := 0, slots := 0, locals := 71 }
theorem kY_X11_pointsOf : kY yX11_pointsOf cX11_pointsOf 3 (some .int) 1 := ⟨kw_1_1, kw_5_30, by decide, by decide, by decide +kernel⟩
def f_X11_pointsOf (S : CS) (a1 : Int32) : Option (Int32 × CS) :=
  bp (f_X4_parts_sf S) (fun x1 =>
  (if x1 = 0 then
  chk a1 60 (
  lt (S.2.1 18 a1.toNatClampNeg) fun x4 =>
  chk a1 60 (
  bp (f_X1_isMoreBetter S (S.2.1 13 a1.toNatClampNeg)) (fun x5 =>
  (if x5 = true then
  some (x4, S)
 else
  some (1000000 - x4, S)))))
 else
  chk a1 60 (
  bw (f_X4_valueOf_sf S 0 a1 (S.2.1 21 a1.toNatClampNeg)) (fun x2 S3 =>
  some ((if 0 < (if 1000000 < x2 then 1000000 else x2) then (if 1000000 < x2 then 1000000 else x2) else 0), S3)))))
set_option maxRecDepth 100000 in
set_option maxHeartbeats 4000000 in
theorem c_X11_pointsOf {g : KG} {q : Nat → Nat} {E : va_W} {S : CS} {a1 : Int32} {r : Int32} {S' : CS} (h : f_X11_pointsOf S a1 = some (r, S')) : ∀ l, kM l yX11_pointsOf cX11_pointsOf 3 (some .int) rm_X11_pointsOf g [.ref (q 0), .int a1] (cx g q E S) (cx g q E S') (some (.int r)) 0 0 := by
  refine k_open_i (own := "MarkChains") (by decide) rfl (Nat.le_of_ble_eq_true rfl) (fun X C hR => ?_)
  refine (?_ : jJ X g ((r, S') : Int32 × CS) (cx g q E S) 0 0 0 [(0, .ref (q 0)), (1, .int a1)] [] (f_X11_pointsOf S a1)) h
  unfold f_X11_pointsOf
  refine r_aload_n (pc := 0) C dX11_pointsOf_0 0 rfl ?_
  refine xg_x_scored (pc := 1) C kw_2_85 dX11_pointsOf_1 ?_
  refine r_cVpi (As := []) (st := []) (pc := 4) C (fun _ h => c_X4_parts_sf h) kY_X4_parts kw_3_217 kw_3_218 kw_3_216 rfl ⟨Nat.le_of_ble_eq_true rfl, Nat.le_of_ble_eq_true rfl⟩ rfl rfl ⟨Nat.zero_le _, Nat.zero_le _⟩ 48 rfl rfl rfl (Nat.le_of_ble_eq_true rfl) dX11_pointsOf_4 (fun x1 => ?_)
  refine r_if_ne 49 (pc := 7) C dX11_pointsOf_7 (by decide) ?_ ?_
  · refine r_aload_n (pc := 49) C dX11_pointsOf_49 0 rfl ?_
    refine xg_x_scored (pc := 50) C kw_2_85 dX11_pointsOf_50 ?_
    refine r_iconst (pc := 53) C dX11_pointsOf_53 (v := 0) (by decide) ?_
    refine r_aload_n (pc := 54) C dX11_pointsOf_54 0 rfl ?_
    refine xg_x_book (pc := 55) C kw_2_75 dX11_pointsOf_55 ?_
    refine r_iload_n (pc := 58) C dX11_pointsOf_58 1 rfl ?_
    refine r_aload_n (pc := 59) C dX11_pointsOf_59 0 rfl ?_
    refine xg_x_book (pc := 60) C kw_2_75 dX11_pointsOf_60 ?_
    refine xgN_bk_papers (pc := 63) C knf_25 dX11_pointsOf_63 ?_
    refine r_iload_n (pc := 66) C dX11_pointsOf_66 1 rfl ?_
    refine xl_bk_papers (pc := 67) C dX11_pointsOf_67 ?_
    refine r_cVwi (As := [.int 0, .ref (q 3), .int a1, .int (S.2.1 21 a1.toNatClampNeg)]) (st := []) (wf := cx g q E) (pc := 68) C (fun _ _ h => c_X4_valueOf_sf h) kY_X4_valueOf kw_4_13 kw_4_14 kw_4_12 rfl ⟨Nat.le_of_ble_eq_true rfl, Nat.le_of_ble_eq_true rfl⟩ rfl rfl ⟨Nat.zero_le _, Nat.zero_le _⟩ 48 rfl rfl rfl (Nat.le_of_ble_eq_true rfl) dX11_pointsOf_68 (fun x2 S3 => ?_)
    refine r_istore_n (pc := 71) C dX11_pointsOf_71 (lv' := [(0, .ref (q 0)), (1, .int a1), (2, .int x2)]) (by decide) [1, 2, 0] rfl ?_
    refine r_iconst (pc := 72) C dX11_pointsOf_72 (v := 0) (by decide) ?_
    refine r_iload_n (pc := 73) C dX11_pointsOf_73 2 rfl ?_
    refine r_ldcw (pc := 74) C dX11_pointsOf_74 kw_5_4 ?_
    refine r_mmin (st := [.int 0]) (pc := 77) C kw_4_83 (Nat.le_of_ble_eq_true rfl) (Nat.le_of_ble_eq_true rfl) ⟨Nat.zero_le _, Nat.zero_le _⟩ dX11_pointsOf_77 ?_
    refine r_mmax (st := []) (pc := 80) C kw_5_31 (Nat.le_of_ble_eq_true rfl) (Nat.le_of_ble_eq_true rfl) ⟨Nat.zero_le _, Nat.zero_le _⟩ dX11_pointsOf_80 ?_
    exact r_retWI (wf := cx g q E) hR (pc := 83) dX11_pointsOf_83
  · refine r_aload_n (pc := 10) C dX11_pointsOf_10 0 rfl ?_
    refine xg_x_book (pc := 11) C kw_2_75 dX11_pointsOf_11 ?_
    refine xgN_bk_value (pc := 14) C knf_24 dX11_pointsOf_14 ?_
    refine r_iload_n (pc := 17) C dX11_pointsOf_17 1 rfl ?_
    refine xl_bk_value (pc := 18) C dX11_pointsOf_18 ?_
    refine r_istoreV_n (pc := 19) C dX11_pointsOf_19 (lv' := fun x4 => [(0, .ref (q 0)), (1, .int a1), (2, .int x4)]) (by decide) [1, 2, 0] (fun _ => rfl) (fun x4 => ?_)
    refine r_aload_n (pc := 20) C dX11_pointsOf_20 0 rfl ?_
    refine xg_x_book (pc := 21) C kw_2_75 dX11_pointsOf_21 ?_
    refine r_aload_n (pc := 24) C dX11_pointsOf_24 0 rfl ?_
    refine xg_x_book (pc := 25) C kw_2_75 dX11_pointsOf_25 ?_
    refine xgN_bk_event (pc := 28) C knf_17 dX11_pointsOf_28 ?_
    refine r_iload_n (pc := 31) C dX11_pointsOf_31 1 rfl ?_
    refine xl_bk_event (pc := 32) C dX11_pointsOf_32 ?_
    refine r_cVpz (As := [.int (S.2.1 13 a1.toNatClampNeg)]) (st := []) (pc := 33) C (fun _ h => c_X1_isMoreBetter h) kY_X1_isMoreBetter kw_4_134 kw_4_135 kw_5_3 rfl ⟨Nat.le_of_ble_eq_true rfl, Nat.le_of_ble_eq_true rfl⟩ rfl rfl ⟨Nat.zero_le _, Nat.zero_le _⟩ 3 rfl rfl rfl (Nat.le_of_ble_eq_true rfl) dX11_pointsOf_33 (fun x5 => ?_)
    refine r_ifb_eq 43 (pc := 36) C dX11_pointsOf_36 (by decide) ?_ ?_
    · refine r_ldcw (pc := 43) C dX11_pointsOf_43 kw_5_4 ?_
      refine r_iload_n (pc := 46) C dX11_pointsOf_46 2 rfl ?_
      refine r_isub (pc := 47) C dX11_pointsOf_47 ?_
      exact r_retWI (wf := cx g q E) hR (pc := 48) dX11_pointsOf_48
    · refine r_iload_n (pc := 39) C dX11_pointsOf_39 2 rfl ?_
      refine r_goto 48 (pc := 40) C dX11_pointsOf_40 (by decide) ?_
      exact r_retWI (wf := cx g q E) hR (pc := 48) dX11_pointsOf_48
set_option maxRecDepth 100000 in
theorem w_X11_pointsOf {S : CS} {a1 : Int32} {r : Int32} {S' : CS} (h : f_X11_pointsOf S a1 = some (r, S')) : gI [25] [52] S S' := by
  have hS : gI [25] [52] S S := gI_rf
  refine (?_ : jf (gI [25] [52] S) Prod.snd (f_X11_pointsOf S a1)) _ h
  unfold f_X11_pointsOf
  refine f_bp (fun x1 => ?_)
  refine f_ite ?_ ?_
  · refine f_chk ?_
    refine f_lt (fun x4 => ?_)
    refine f_chk ?_
    refine f_bp (fun x5 => ?_)
    refine f_ite ?_ ?_
    · exact f_some hS
    · exact f_some hS
  · refine f_chk ?_
    refine f_bwS (fun _ _ h => gI_tr hS (w_X4_valueOf_sf h) (by decide) (by decide)) (fun x2 S3 hS3 => ?_)
    exact f_some hS3
abbrev rm_X11_points : Room := { frames := 4, cells := 0, slots := 0, locals := 93 }
theorem kY_X11_points : kY yX11_points cX11_points 2 (some .int) 1 := ⟨kw_1_1, kw_5_26, by decide, by decide, by decide +kernel⟩
def f_X11_points (S : CS) (a1 : Int32) : Option (Int32 × CS) :=
  bp (f_X1_hasMark S a1) (fun x1 =>
  (if x1 = true then
  bw (f_X11_pointsOf S a1) (fun x2 S3 =>
  some (x2, S3))
 else
  some ((-1), S)))
set_option maxRecDepth 100000 in
set_option maxHeartbeats 4000000 in
theorem c_X11_points {g : KG} {q : Nat → Nat} {E : va_W} {S : CS} {a1 : Int32} {r : Int32} {S' : CS} (h : f_X11_points S a1 = some (r, S')) : ∀ l, kM l yX11_points cX11_points 2 (some .int) rm_X11_points g [.ref (q 0), .int a1] (cx g q E S) (cx g q E S') (some (.int r)) 0 0 := by
  refine k_open_i (own := "MarkChains") (by decide) rfl (Nat.le_of_ble_eq_true rfl) (fun X C hR => ?_)
  refine (?_ : jJ X g ((r, S') : Int32 × CS) (cx g q E S) 0 0 0 [(0, .ref (q 0)), (1, .int a1)] [] (f_X11_points S a1)) h
  unfold f_X11_points
  refine r_aload_n (pc := 0) C dX11_points_0 0 rfl ?_
  refine xg_x_book (pc := 1) C kw_2_75 dX11_points_1 ?_
  refine r_iload_n (pc := 4) C dX11_points_4 1 rfl ?_
  refine r_cVpz (As := [.int a1]) (st := []) (pc := 5) C (fun _ h => c_X1_hasMark h) kY_X1_hasMark kw_4_44 kw_4_45 kw_4_43 rfl ⟨Nat.le_of_ble_eq_true rfl, Nat.le_of_ble_eq_true rfl⟩ rfl rfl ⟨Nat.zero_le _, Nat.zero_le _⟩ 3 rfl rfl rfl (Nat.le_of_ble_eq_true rfl) dX11_points_5 (fun x1 => ?_)
  refine r_ifb_eq 19 (pc := 8) C dX11_points_8 (by decide) ?_ ?_
  · refine r_iconst (pc := 19) C dX11_points_19 (v := (-1)) (by decide) ?_
    exact r_retWI (wf := cx g q E) hR (pc := 20) dX11_points_20
  · refine r_aload_n (pc := 11) C dX11_points_11 0 rfl ?_
    refine r_iload_n (pc := 12) C dX11_points_12 1 rfl ?_
    refine r_cVwi (As := [.int a1]) (st := []) (wf := cx g q E) (pc := 13) C (fun _ _ h => c_X11_pointsOf h) kY_X11_pointsOf kw_5_29 kw_0_30 kw_5_27 rfl ⟨Nat.le_of_ble_eq_true rfl, Nat.le_of_ble_eq_true rfl⟩ rfl rfl ⟨Nat.zero_le _, Nat.zero_le _⟩ 0 rfl rfl rfl (Nat.le_of_ble_eq_true rfl) dX11_points_13 (fun x2 S3 => ?_)
    refine r_goto 20 (pc := 16) C dX11_points_16 (by decide) ?_
    exact r_retWI (wf := cx g q E) hR (pc := 20) dX11_points_20
set_option maxRecDepth 100000 in
theorem w_X11_points {S : CS} {a1 : Int32} {r : Int32} {S' : CS} (h : f_X11_points S a1 = some (r, S')) : gI [25] [52] S S' := by
  have hS : gI [25] [52] S S := gI_rf
  refine (?_ : jf (gI [25] [52] S) Prod.snd (f_X11_points S a1)) _ h
  unfold f_X11_points
  refine f_bp (fun x1 => ?_)
  refine f_ite ?_ ?_
  · refine f_bwS (fun _ _ h => gI_tr hS (w_X11_pointsOf h) (by decide) (by decide)) (fun x2 S3 hS3 => ?_)
    exact f_some hS3
  · exact f_some hS
abbrev rm_J7_fill_53178_x_bestPoints : Room := { frames := 0, cells := 0, slots := 0, locals := 0 }
def L_J7_fill_53178_x_bestPoints_5 (c1 : Int32) (c3 : Int32) (k5 : CS → Option (CS)) : Nat → CS → Int32 → Option (CS) := lo2 fun rec3 S2 x1 =>
  (if c3 ≤ x1 then
  k5 S2
 else
  chk x1 6 (lt (ca S2 44 (upd (S2.2.1 44) x1.toNatClampNeg c1)) fun S7 =>
  lt (x1 + 1) fun x8 =>
  rec3 S7 x8))
set_option maxRecDepth 100000 in
set_option maxHeartbeats 4000000 in
theorem l_J7_fill_53178_x_bestPoints_5 {X : KX} {g : KG} {q : Nat → Nat} {E : va_W} {res : CS} (C : kC X g cJ7_fill_53178 "java/util/Arrays" rm_J7_fill_53178_x_bestPoints 4) (hR : ∀ (pc : Nat) (lv : List (Nat × Value)), decode cJ7_fill_53178 pc = .ok (.return_, 1) → jW X g (cx g q E res) 0 0 pc lv []) (c1 : Int32) (c3 : Int32) (k5 : CS → Option (CS)) (hk6 : ∀ (S9 : CS), jJ X g res (cx g q E S9) 0 0 20 [] [] (k5 S9)) : ∀ (n : Nat) (S2 : CS) (x1 : Int32), jJ X g res (cx g q E S2) 0 0 5 [(0, .ref (q 44)), (1, .int c1), (2, .int x1), (3, .int c3)] [] (L_J7_fill_53178_x_bestPoints_5 c1 c3 k5 n S2 x1) := by
  refine r_lo2 (fun S2 x1 => cx g q E S2) (fun S2 x1 => [(0, .ref (q 44)), (1, .int c1), (2, .int x1), (3, .int c3)]) (fun rec3 ih4 S2 x1 => ?_)
  refine r_iload_n (pc := 5) C dJ7_fill_53178_5 2 rfl ?_
  refine r_iload_n (pc := 6) C dJ7_fill_53178_6 3 rfl ?_
  refine r_icmp_ge 20 (pc := 7) C dJ7_fill_53178_7 (by decide) ?_ ?_
  · refine r_sub (lv' := []) [] rfl ?_
    exact hk6 S2
  · refine r_aload_n (pc := 10) C dJ7_fill_53178_10 0 rfl ?_
    refine r_iload_n (pc := 11) C dJ7_fill_53178_11 2 rfl ?_
    refine r_iload_n (pc := 12) C dJ7_fill_53178_12 1 rfl ?_
    refine xs_x_bestPoints (pc := 13) C dJ7_fill_53178_13 (fun S7 => ?_)
    refine r_iinc (pc := 14) C dJ7_fill_53178_14 (v := 1) (lv' := fun x8 => [(0, .ref (q 44)), (1, .int c1), (2, .int x8), (3, .int c3)]) 2 rfl (by decide) (by decide) [1, 2, 0, 3] (fun _ => rfl) (fun x8 => ?_)
    refine r_goto 5 (pc := 17) C dJ7_fill_53178_17 (by decide) ?_
    exact ih4 S7 x8
set_option maxRecDepth 100000 in
theorem v_J7_fill_53178_x_bestPoints_5 {S0 : CS} {c1 : Int32} {c3 : Int32} {k5 : CS → Option (CS)} (hk6 : ∀ (S9 : CS), (gI [] [44] S0) S9 → jf (gI [] [44] S0) id (k5 S9)) : ∀ (n : Nat) (S2 : CS) (x1 : Int32), (gI [] [44] S0) S2 → jf (gI [] [44] S0) id (L_J7_fill_53178_x_bestPoints_5 c1 c3 k5 n S2 x1) := by
  refine f_lo2 (I := (gI [] [44] S0)) (fun S2 x1 => S2) (fun rec3 ih4 S2 x1 hS2 => ?_)
  refine f_ite ?_ ?_
  · exact hk6 S2 hS2
  · refine f_chk (f_ltS (gI_ca hS2 (by decide)) (fun S7 hS7 => ?_))
    refine f_lt (fun x8 => ?_)
    exact ih4 S7 x8 hS7
def f_J7_fill_53178_x_bestPoints (S : CS) (a1 : Int32) : Option (CS) :=
  L_J7_fill_53178_x_bestPoints_5 a1 6 (fun S10 =>
  some S10) FU S 0
set_option maxRecDepth 100000 in
set_option maxHeartbeats 4000000 in
theorem c_J7_fill_53178_x_bestPoints {g : KG} {q : Nat → Nat} {E : va_W} {S : CS} {a1 : Int32} {S' : CS} (h : f_J7_fill_53178_x_bestPoints S a1 = some S') : ∀ l, kM l yJ7_fill_53178 cJ7_fill_53178 4 none rm_J7_fill_53178_x_bestPoints g [.ref (q 44), .int a1] (cx g q E S) (cx g q E S') (none) 0 0 := by
  refine k_open_v (own := "java/util/Arrays") (by decide) rfl (Nat.le_of_ble_eq_true rfl) (fun X C hR => ?_)
  refine (?_ : jJ X g (S' : CS) (cx g q E S) 0 0 0 [(0, .ref (q 44)), (1, .int a1)] [] (f_J7_fill_53178_x_bestPoints S a1)) h
  unfold f_J7_fill_53178_x_bestPoints
  refine r_iconst (pc := 0) C dJ7_fill_53178_0 (v := 0) (by decide) ?_
  refine r_istore_n (pc := 1) C dJ7_fill_53178_1 (lv' := [(0, .ref (q 44)), (1, .int a1), (2, .int 0)]) (by decide) [1, 2, 0] rfl ?_
  refine r_aload_n (pc := 2) C dJ7_fill_53178_2 0 rfl ?_
  refine xn_x_bestPoints (pc := 3) C dJ7_fill_53178_3 ?_
  refine r_istore_n (pc := 4) C dJ7_fill_53178_4 (lv' := [(0, .ref (q 44)), (1, .int a1), (2, .int 0), (3, .int 6)]) (by decide) [1, 2, 3, 0] rfl ?_
  refine l_J7_fill_53178_x_bestPoints_5 C hR a1 6 _ (fun S10 => ?_) FU S 0
  exact r_retWV (wf := cx g q E) hR (pc := 20) dJ7_fill_53178_20
set_option maxRecDepth 100000 in
theorem w_J7_fill_53178_x_bestPoints {S : CS} {a1 : Int32} {S' : CS} (h : f_J7_fill_53178_x_bestPoints S a1 = some S') : gI [] [44] S S' := by
  have hS : gI [] [44] S S := gI_rf
  refine (?_ : jf (gI [] [44] S) id (f_J7_fill_53178_x_bestPoints S a1)) _ h
  unfold f_J7_fill_53178_x_bestPoints
  refine v_J7_fill_53178_x_bestPoints_5 (fun S10 hS10 => ?_) FU S 0 hS
  exact f_some hS10
abbrev rm_X11_sumOfBest : Room := { frames := 4, cells := 0, slots := 0, locals := 93 }
theorem kY_X11_sumOfBest : kY yX11_sumOfBest cX11_sumOfBest 9 (some .int) 3 := ⟨kw_1_1, kw_5_39, by decide, by decide, by decide +kernel⟩
def L_X11_sumOfBest_11 (c1 : Int32) (c2 : Int32) (c3 : Int32) (k6 : CS → Option (Int32 × CS)) : Nat → CS → Int32 → Option (Int32 × CS) := lo2 fun rec4 S3 x2 =>
  (if (S3.1 6) ≤ x2 then
  k6 S3
 else
  chk x2 60 (
  lt (S3.2.1 14 x2.toNatClampNeg) fun x8 =>
  jn0 (jn0 (bp (f_X1_isStanding S3 x2 c3) (fun x9 =>
  (if x9 = true then
  chk x2 60 (
  lt (S3.2.1 13 x2.toNatClampNeg) fun x11 =>
  chk x11 6 (
  bw (f_X11_pointsOf S3 x2) (fun x12 S13 =>
  chk x11 6 (lt (ca S13 44 (upd (S13.2.1 44) x11.toNatClampNeg ((if (S3.2.1 44 x11.toNatClampNeg) < x12 then x12 else (S3.2.1 44 x11.toNatClampNeg))))) fun S14 =>
  lt (x2 + 1) fun x15 =>
  rec4 S14 x15))))
 else
  lt (x2 + 1) fun x10 =>
  rec4 S3 x10))) (fun k16 =>
  (if c2 = (-1) then
  k16
 else
  chk x8 16 (
  (if (S3.2.1 12 x8.toNatClampNeg) = c2 then
  k16
 else
  lt (x2 + 1) fun x18 =>
  rec4 S3 x18))))) (fun k19 =>
  (if c1 = (-1) then
  k19
 else
  (if x8 = c1 then
  k19
 else
  lt (x2 + 1) fun x21 =>
  rec4 S3 x21)))))
set_option maxRecDepth 100000 in
set_option maxHeartbeats 4000000 in
theorem l_X11_sumOfBest_11 {X : KX} {g : KG} {q : Nat → Nat} {E : va_W} {res : Int32 × CS} (C : kC X g cX11_sumOfBest "MarkChains" rm_X11_sumOfBest 9) (hR : ∀ (pc : Nat) (lv : List (Nat × Value)), decode cX11_sumOfBest pc = .ok (.ireturn, 1) → jW X g (cx g q E res.2) 0 0 pc lv [.int res.1]) (c1 : Int32) (c2 : Int32) (c3 : Int32) (k6 : CS → Option (Int32 × CS)) (hk7 : ∀ (S22 : CS), jJ X g res (cx g q E S22) 0 0 122 [(0, .ref (q 0))] [] (k6 S22)) : ∀ (n : Nat) (S3 : CS) (x2 : Int32), jJ X g res (cx g q E S3) 0 0 11 [(0, .ref (q 0)), (1, .int c1), (2, .int c2), (3, .int c3), (4, .int x2)] [] (L_X11_sumOfBest_11 c1 c2 c3 k6 n S3 x2) := by
  refine r_lo2 (fun S3 x2 => cx g q E S3) (fun S3 x2 => [(0, .ref (q 0)), (1, .int c1), (2, .int c2), (3, .int c3), (4, .int x2)]) (fun rec4 ih5 S3 x2 => ?_)
  refine r_iload (pc := 11) C dX11_sumOfBest_11 4 rfl ?_
  refine r_aload_n (pc := 13) C dX11_sumOfBest_13 0 rfl ?_
  refine xg_x_book (pc := 14) C kw_2_75 dX11_sumOfBest_14 ?_
  refine xgN_bk_size (pc := 17) C knf_30 dX11_sumOfBest_17 ?_
  refine r_icmp_ge 122 (pc := 20) C dX11_sumOfBest_20 (by decide) ?_ ?_
  · refine r_sub (lv' := [(0, .ref (q 0))]) [0] rfl ?_
    exact hk7 S3
  · refine r_aload_n (pc := 23) C dX11_sumOfBest_23 0 rfl ?_
    refine xg_x_book (pc := 24) C kw_2_75 dX11_sumOfBest_24 ?_
    refine xgN_bk_athlete (pc := 27) C knf_19 dX11_sumOfBest_27 ?_
    refine r_iload (pc := 30) C dX11_sumOfBest_30 4 rfl ?_
    refine xl_bk_athlete (pc := 32) C dX11_sumOfBest_32 ?_
    refine r_istoreV (pc := 33) C dX11_sumOfBest_33 (lv' := fun x8 => [(0, .ref (q 0)), (1, .int c1), (2, .int c2), (3, .int c3), (4, .int x2), (5, .int x8)]) (by decide) [1, 2, 3, 4, 5, 0] (fun _ => rfl) (fun x8 => ?_)
    refine r_iload_n (pc := 35) C dX11_sumOfBest_35 1 rfl ?_
    refine r_iconst (pc := 36) C dX11_sumOfBest_36 (v := (-1)) (by decide) ?_
    refine r_jn0 46 (cx g q E S3) ([(0, .ref (q 0)), (1, .int c1), (2, .int c2), (3, .int c3), (4, .int x2), (5, .int x8)]) ([]) ?_ (fun k19 hk20 => ?_)
    · refine r_iload_n (pc := 46) C dX11_sumOfBest_46 2 rfl ?_
      refine r_iconst (pc := 47) C dX11_sumOfBest_47 (v := (-1)) (by decide) ?_
      refine r_jn0 68 (cx g q E S3) ([(0, .ref (q 0)), (1, .int c1), (2, .int c2), (3, .int c3), (4, .int x2)]) ([]) ?_ (fun k16 hk17 => ?_)
      · refine r_aload_n (pc := 68) C dX11_sumOfBest_68 0 rfl ?_
        refine xg_x_book (pc := 69) C kw_2_75 dX11_sumOfBest_69 ?_
        refine r_iload (pc := 72) C dX11_sumOfBest_72 4 rfl ?_
        refine r_iload_n (pc := 74) C dX11_sumOfBest_74 3 rfl ?_
        refine r_cVpz (As := [.int x2, .int c3]) (st := []) (pc := 75) C (fun _ h => c_X1_isStanding h) kY_X1_isStanding kw_3_233 kw_3_234 kw_5_41 rfl ⟨Nat.le_of_ble_eq_true rfl, Nat.le_of_ble_eq_true rfl⟩ rfl rfl ⟨Nat.zero_le _, Nat.zero_le _⟩ 3 rfl rfl rfl (Nat.le_of_ble_eq_true rfl) dX11_sumOfBest_75 (fun x9 => ?_)
        refine r_ifb_eq 116 (pc := 78) C dX11_sumOfBest_78 (by decide) ?_ ?_
        · refine r_iinc (pc := 116) C dX11_sumOfBest_116 (v := 1) (lv' := fun x10 => [(0, .ref (q 0)), (1, .int c1), (2, .int c2), (3, .int c3), (4, .int x10)]) 4 rfl (by decide) (by decide) [1, 2, 3, 4, 0] (fun _ => rfl) (fun x10 => ?_)
          refine r_goto 11 (pc := 119) C dX11_sumOfBest_119 (by decide) ?_
          exact ih5 S3 x10
        · refine r_aload_n (pc := 81) C dX11_sumOfBest_81 0 rfl ?_
          refine xg_x_book (pc := 82) C kw_2_75 dX11_sumOfBest_82 ?_
          refine xgN_bk_event (pc := 85) C knf_17 dX11_sumOfBest_85 ?_
          refine r_iload (pc := 88) C dX11_sumOfBest_88 4 rfl ?_
          refine xl_bk_event (pc := 90) C dX11_sumOfBest_90 ?_
          refine r_istoreV (pc := 91) C dX11_sumOfBest_91 (lv' := fun x11 => [(0, .ref (q 0)), (1, .int c1), (2, .int c2), (3, .int c3), (4, .int x2), (6, .int x11)]) (by decide) [1, 2, 3, 4, 5, 0] (fun _ => rfl) (fun x11 => ?_)
          refine r_aload_n (pc := 93) C dX11_sumOfBest_93 0 rfl ?_
          refine xg_x_bestPoints (pc := 94) C kw_2_83 dX11_sumOfBest_94 ?_
          refine r_iload (pc := 97) C dX11_sumOfBest_97 5 rfl ?_
          refine r_aload_n (pc := 99) C dX11_sumOfBest_99 0 rfl ?_
          refine xg_x_bestPoints (pc := 100) C kw_2_83 dX11_sumOfBest_100 ?_
          refine r_iload (pc := 103) C dX11_sumOfBest_103 5 rfl ?_
          refine xl_x_bestPoints (pc := 105) C dX11_sumOfBest_105 ?_
          refine r_aload_n (pc := 106) C dX11_sumOfBest_106 0 rfl ?_
          refine r_iload (pc := 107) C dX11_sumOfBest_107 4 rfl ?_
          refine r_cVwi (As := [.int x2]) (st := [.int (S3.2.1 44 x11.toNatClampNeg), .int x11, .ref (q 44)]) (wf := cx g q E) (pc := 109) C (fun _ _ h => c_X11_pointsOf h) kY_X11_pointsOf kw_5_29 kw_0_30 kw_5_27 rfl ⟨Nat.le_of_ble_eq_true rfl, Nat.le_of_ble_eq_true rfl⟩ rfl rfl ⟨Nat.zero_le _, Nat.zero_le _⟩ 0 rfl rfl rfl (Nat.le_of_ble_eq_true rfl) dX11_sumOfBest_109 (fun x12 S13 => ?_)
          refine r_mmax (st := [.int x11, .ref (q 44)]) (pc := 112) C kw_5_31 (Nat.le_of_ble_eq_true rfl) (Nat.le_of_ble_eq_true rfl) ⟨Nat.zero_le _, Nat.zero_le _⟩ dX11_sumOfBest_112 ?_
          refine xs_x_bestPoints (pc := 115) C dX11_sumOfBest_115 (fun S14 => ?_)
          refine r_iinc (pc := 116) C dX11_sumOfBest_116 (v := 1) (lv' := fun x15 => [(0, .ref (q 0)), (1, .int c1), (2, .int c2), (3, .int c3), (4, .int x15), (6, .int x11)]) 4 rfl (by decide) (by decide) [1, 2, 3, 4, 0, 5] (fun _ => rfl) (fun x15 => ?_)
          refine r_goto 11 (pc := 119) C dX11_sumOfBest_119 (by decide) ?_
          refine r_sub (lv' := [(0, .ref (q 0)), (1, .int c1), (2, .int c2), (3, .int c3), (4, .int x15)]) [0, 1, 2, 3, 4] rfl ?_
          exact ih5 S14 x15
      · refine r_icmp_eq 68 (pc := 48) C dX11_sumOfBest_48 (by decide) ?_ ?_
        · refine r_sub (lv' := [(0, .ref (q 0)), (1, .int c1), (2, .int c2), (3, .int c3), (4, .int x2)]) [0, 1, 2, 3, 4] rfl ?_
          exact hk17
        · refine r_aload_n (pc := 51) C dX11_sumOfBest_51 0 rfl ?_
          refine xg_x_book (pc := 52) C kw_2_75 dX11_sumOfBest_52 ?_
          refine xgN_bk_athletes (pc := 55) C knf_16 dX11_sumOfBest_55 ?_
          refine xgN_pa_second (pc := 58) C knf_7 dX11_sumOfBest_58 ?_
          refine r_iload (pc := 61) C dX11_sumOfBest_61 5 rfl ?_
          refine xl_pa_second (pc := 63) C dX11_sumOfBest_63 ?_
          refine r_iload_n (pc := 64) C dX11_sumOfBest_64 2 rfl ?_
          refine r_icmp_ne 116 (pc := 65) C dX11_sumOfBest_65 (by decide) ?_ ?_
          · refine r_iinc (pc := 116) C dX11_sumOfBest_116 (v := 1) (lv' := fun x18 => [(0, .ref (q 0)), (1, .int c1), (2, .int c2), (3, .int c3), (4, .int x18), (5, .int x8)]) 4 rfl (by decide) (by decide) [1, 2, 3, 4, 0, 5] (fun _ => rfl) (fun x18 => ?_)
            refine r_goto 11 (pc := 119) C dX11_sumOfBest_119 (by decide) ?_
            refine r_sub (lv' := [(0, .ref (q 0)), (1, .int c1), (2, .int c2), (3, .int c3), (4, .int x18)]) [0, 1, 2, 3, 4] rfl ?_
            exact ih5 S3 x18
          · refine r_sub (lv' := [(0, .ref (q 0)), (1, .int c1), (2, .int c2), (3, .int c3), (4, .int x2)]) [0, 1, 2, 3, 4] rfl ?_
            exact hk17
    · refine r_icmp_eq 46 (pc := 37) C dX11_sumOfBest_37 (by decide) ?_ ?_
      · exact hk20
      · refine r_iload (pc := 40) C dX11_sumOfBest_40 5 rfl ?_
        refine r_iload_n (pc := 42) C dX11_sumOfBest_42 1 rfl ?_
        refine r_icmp_ne 116 (pc := 43) C dX11_sumOfBest_43 (by decide) ?_ ?_
        · refine r_iinc (pc := 116) C dX11_sumOfBest_116 (v := 1) (lv' := fun x21 => [(0, .ref (q 0)), (1, .int c1), (2, .int c2), (3, .int c3), (4, .int x21), (5, .int x8)]) 4 rfl (by decide) (by decide) [1, 2, 3, 4, 0, 5] (fun _ => rfl) (fun x21 => ?_)
          refine r_goto 11 (pc := 119) C dX11_sumOfBest_119 (by decide) ?_
          refine r_sub (lv' := [(0, .ref (q 0)), (1, .int c1), (2, .int c2), (3, .int c3), (4, .int x21)]) [0, 1, 2, 3, 4] rfl ?_
          exact ih5 S3 x21
        · exact hk20
set_option maxRecDepth 100000 in
theorem v_X11_sumOfBest_11 {S0 : CS} {c1 : Int32} {c2 : Int32} {c3 : Int32} {k6 : CS → Option (Int32 × CS)} (hk7 : ∀ (S22 : CS), (gI [25] [44, 52] S0) S22 → jf (gI [25] [44, 52] S0) Prod.snd (k6 S22)) : ∀ (n : Nat) (S3 : CS) (x2 : Int32), (gI [25] [44, 52] S0) S3 → jf (gI [25] [44, 52] S0) Prod.snd (L_X11_sumOfBest_11 c1 c2 c3 k6 n S3 x2) := by
  refine f_lo2 (I := (gI [25] [44, 52] S0)) (fun S3 x2 => S3) (fun rec4 ih5 S3 x2 hS3 => ?_)
  refine f_ite ?_ ?_
  · exact hk7 S3 hS3
  · refine f_chk ?_
    refine f_lt (fun x8 => ?_)
    refine f_jm0 hS3 (fun  hS3 => ?_) (fun k19 hk20 => ?_)
    · refine f_jm0 hS3 (fun  hS3 => ?_) (fun k16 hk17 => ?_)
      · refine f_bp (fun x9 => ?_)
        refine f_ite ?_ ?_
        · refine f_chk ?_
          refine f_lt (fun x11 => ?_)
          refine f_chk ?_
          refine f_bwS (fun _ _ h => gI_tr hS3 (w_X11_pointsOf h) (by decide) (by decide)) (fun x12 S13 hS13 => ?_)
          refine f_chk (f_ltS (gI_ca hS13 (by decide)) (fun S14 hS14 => ?_))
          refine f_lt (fun x15 => ?_)
          exact ih5 S14 x15 hS14
        · refine f_lt (fun x10 => ?_)
          exact ih5 S3 x10 hS3
      · refine f_ite ?_ ?_
        · exact hk17 hS3
        · refine f_chk ?_
          refine f_ite ?_ ?_
          · exact hk17 hS3
          · refine f_lt (fun x18 => ?_)
            exact ih5 S3 x18 hS3
    · refine f_ite ?_ ?_
      · exact hk20 hS3
      · refine f_ite ?_ ?_
        · exact hk20 hS3
        · refine f_lt (fun x21 => ?_)
          exact ih5 S3 x21 hS3
def L_X11_sumOfBest_139 (S : CS) (c6 : Int32) (k28 : Int32 → Option (Int32 × CS)) : Nat → Int32 → Int32 → Option (Int32 × CS) := lo2 fun rec26 x24 x25 =>
  (if c6 ≤ x25 then
  k28 x24
 else
  chk x25 6 (
  lt (S.2.1 44 x25.toNatClampNeg) fun x30 =>
  lt (x24 + x30) fun x31 =>
  lt (x25 + 1) fun x32 =>
  rec26 x31 x32))
set_option maxRecDepth 100000 in
set_option maxHeartbeats 4000000 in
theorem l_X11_sumOfBest_139 {X : KX} {g : KG} {q : Nat → Nat} {E : va_W} {res : Int32 × CS} {S : CS} (C : kC X g cX11_sumOfBest "MarkChains" rm_X11_sumOfBest 9) (hR : ∀ (pc : Nat) (lv : List (Nat × Value)), decode cX11_sumOfBest pc = .ok (.ireturn, 1) → jW X g (cx g q E res.2) 0 0 pc lv [.int res.1]) (c6 : Int32) (k28 : Int32 → Option (Int32 × CS)) (hk29 : ∀ (x33 : Int32), jJ X g res (cx g q E S) 0 0 166 [(4, .int x33)] [] (k28 x33)) : ∀ (n : Nat) (x24 : Int32) (x25 : Int32), jJ X g res (cx g q E S) 0 0 139 [(4, .int x24), (5, .ref (q 44)), (6, .int c6), (7, .int x25)] [] (L_X11_sumOfBest_139 S c6 k28 n x24 x25) := by
  refine r_lo2 (fun x24 x25 => cx g q E S) (fun x24 x25 => [(4, .int x24), (5, .ref (q 44)), (6, .int c6), (7, .int x25)]) (fun rec26 ih27 x24 x25 => ?_)
  refine r_iload (pc := 139) C dX11_sumOfBest_139 3 rfl ?_
  refine r_iload (pc := 141) C dX11_sumOfBest_141 2 rfl ?_
  refine r_icmp_ge 166 (pc := 143) C dX11_sumOfBest_143 (by decide) ?_ ?_
  · refine r_sub (lv' := [(4, .int x24)]) [0] rfl ?_
    exact hk29 x24
  · refine r_aload (pc := 146) C dX11_sumOfBest_146 1 rfl ?_
    refine r_iload (pc := 148) C dX11_sumOfBest_148 3 rfl ?_
    refine xl_x_bestPoints (pc := 150) C dX11_sumOfBest_150 ?_
    refine r_istoreV (pc := 151) C dX11_sumOfBest_151 (lv' := fun x30 => [(4, .int x24), (5, .ref (q 44)), (6, .int c6), (7, .int x25), (8, .int x30)]) (by decide) [1, 2, 3, 4, 0] (fun _ => rfl) (fun x30 => ?_)
    refine r_iload (pc := 153) C dX11_sumOfBest_153 0 rfl ?_
    refine r_iload (pc := 155) C dX11_sumOfBest_155 4 rfl ?_
    refine r_iadd (pc := 157) C dX11_sumOfBest_157 ?_
    refine r_istoreV (pc := 158) C dX11_sumOfBest_158 (lv' := fun x31 => [(4, .int x31), (5, .ref (q 44)), (6, .int c6), (7, .int x25), (8, .int x30)]) (by decide) [0, 1, 2, 3, 4] (fun _ => rfl) (fun x31 => ?_)
    refine r_iinc (pc := 160) C dX11_sumOfBest_160 (v := 1) (lv' := fun x32 => [(4, .int x31), (5, .ref (q 44)), (6, .int c6), (7, .int x32), (8, .int x30)]) 3 rfl (by decide) (by decide) [1, 2, 3, 0, 4] (fun _ => rfl) (fun x32 => ?_)
    refine r_goto 139 (pc := 163) C dX11_sumOfBest_163 (by decide) ?_
    refine r_sub (lv' := [(4, .int x31), (5, .ref (q 44)), (6, .int c6), (7, .int x32)]) [0, 1, 2, 3] rfl ?_
    exact ih27 x31 x32
set_option maxRecDepth 100000 in
theorem v_X11_sumOfBest_139 {S0 : CS} {S : CS} {c6 : Int32} (hS : (gI [25] [44, 52] S0) S) {k28 : Int32 → Option (Int32 × CS)} (hk29 : ∀ (x33 : Int32), (gI [25] [44, 52] S0) S → jf (gI [25] [44, 52] S0) Prod.snd (k28 x33)) : ∀ (n : Nat) (x24 : Int32) (x25 : Int32), (gI [25] [44, 52] S0) S → jf (gI [25] [44, 52] S0) Prod.snd (L_X11_sumOfBest_139 S c6 k28 n x24 x25) := by
  refine f_lo2 (I := (gI [25] [44, 52] S0)) (fun x24 x25 => S) (fun rec26 ih27 x24 x25 hS => ?_)
  refine f_ite ?_ ?_
  · exact hk29 x24 hS
  · refine f_chk ?_
    refine f_lt (fun x30 => ?_)
    refine f_lt (fun x31 => ?_)
    refine f_lt (fun x32 => ?_)
    exact ih27 x31 x32 hS
def f_X11_sumOfBest (S : CS) (a1 : Int32) (a2 : Int32) (a3 : Int32) : Option (Int32 × CS) :=
  bp (f_J7_fill_53178_x_bestPoints S 0) (fun S1 =>
  L_X11_sumOfBest_11 a1 a2 a3 (fun S23 =>
  L_X11_sumOfBest_139 S23 6 (fun x34 =>
  some (x34, S23)) FU 0 0) FU S1 0)
set_option maxRecDepth 100000 in
set_option maxHeartbeats 4000000 in
theorem c_X11_sumOfBest {g : KG} {q : Nat → Nat} {E : va_W} {S : CS} {a1 : Int32} {a2 : Int32} {a3 : Int32} {r : Int32} {S' : CS} (h : f_X11_sumOfBest S a1 a2 a3 = some (r, S')) : ∀ l, kM l yX11_sumOfBest cX11_sumOfBest 9 (some .int) rm_X11_sumOfBest g [.ref (q 0), .int a1, .int a2, .int a3] (cx g q E S) (cx g q E S') (some (.int r)) 0 0 := by
  refine k_open_i (own := "MarkChains") (by decide) rfl (Nat.le_of_ble_eq_true rfl) (fun X C hR => ?_)
  refine (?_ : jJ X g ((r, S') : Int32 × CS) (cx g q E S) 0 0 0 [(0, .ref (q 0)), (1, .int a1), (2, .int a2), (3, .int a3)] [] (f_X11_sumOfBest S a1 a2 a3)) h
  unfold f_X11_sumOfBest
  refine r_aload_n (pc := 0) C dX11_sumOfBest_0 0 rfl ?_
  refine xg_x_bestPoints (pc := 1) C kw_2_83 dX11_sumOfBest_1 ?_
  refine r_iconst (pc := 4) C dX11_sumOfBest_4 (v := 0) (by decide) ?_
  refine r_cSwv (As := [.ref (q 44), .int 0]) (st := []) (wf := cx g q E) (pc := 5) C (fun _ h => c_J7_fill_53178_x_bestPoints h) kY_J7_fill_53178 kw_4_228 kw_5_40 rfl ⟨Nat.le_of_ble_eq_true rfl, Nat.le_of_ble_eq_true rfl⟩ rfl rfl ⟨Nat.zero_le _, Nat.zero_le _⟩ rfl (Nat.le_of_ble_eq_true rfl) dX11_sumOfBest_5 (fun S1 => ?_)
  refine r_iconst (pc := 8) C dX11_sumOfBest_8 (v := 0) (by decide) ?_
  refine r_istore (pc := 9) C dX11_sumOfBest_9 (lv' := [(0, .ref (q 0)), (1, .int a1), (2, .int a2), (3, .int a3), (4, .int 0)]) (by decide) [1, 2, 3, 4, 0] rfl ?_
  refine l_X11_sumOfBest_11 C hR a1 a2 a3 _ (fun S23 => ?_) FU S1 0
  refine r_iconst (pc := 122) C dX11_sumOfBest_122 (v := 0) (by decide) ?_
  refine r_istore (pc := 123) C dX11_sumOfBest_123 (lv' := [(0, .ref (q 0)), (4, .int 0)]) (by decide) [1, 0] rfl ?_
  refine r_aload_n (pc := 125) C dX11_sumOfBest_125 0 rfl ?_
  refine xg_x_bestPoints (pc := 126) C kw_2_83 dX11_sumOfBest_126 ?_
  refine r_astore (pc := 129) C dX11_sumOfBest_129 (lv' := [(0, .ref (q 0)), (4, .int 0), (5, .ref (q 44))]) (by decide) [1, 2, 0] rfl ?_
  refine r_aload (pc := 131) C dX11_sumOfBest_131 2 rfl ?_
  refine xn_x_bestPoints (pc := 133) C dX11_sumOfBest_133 ?_
  refine r_istore (pc := 134) C dX11_sumOfBest_134 (lv' := [(0, .ref (q 0)), (4, .int 0), (5, .ref (q 44)), (6, .int 6)]) (by decide) [1, 2, 3, 0] rfl ?_
  refine r_iconst (pc := 136) C dX11_sumOfBest_136 (v := 0) (by decide) ?_
  refine r_istore (pc := 137) C dX11_sumOfBest_137 (lv' := [(0, .ref (q 0)), (4, .int 0), (5, .ref (q 44)), (6, .int 6), (7, .int 0)]) (by decide) [1, 2, 3, 4, 0] rfl ?_
  refine r_sub (lv' := [(4, .int 0), (5, .ref (q 44)), (6, .int 6), (7, .int 0)]) [1, 2, 3, 4] rfl ?_
  refine l_X11_sumOfBest_139 C hR 6 _ (fun x34 => ?_) FU 0 0
  refine r_iload (pc := 166) C dX11_sumOfBest_166 0 rfl ?_
  exact r_retWI (wf := cx g q E) hR (pc := 168) dX11_sumOfBest_168
set_option maxRecDepth 100000 in
theorem w_X11_sumOfBest {S : CS} {a1 : Int32} {a2 : Int32} {a3 : Int32} {r : Int32} {S' : CS} (h : f_X11_sumOfBest S a1 a2 a3 = some (r, S')) : gI [25] [44, 52] S S' := by
  have hS : gI [25] [44, 52] S S := gI_rf
  refine (?_ : jf (gI [25] [44, 52] S) Prod.snd (f_X11_sumOfBest S a1 a2 a3)) _ h
  unfold f_X11_sumOfBest
  refine f_bpS (fun _ h => gI_tr hS (w_J7_fill_53178_x_bestPoints h) (by decide) (by decide)) (fun S1 hS1 => ?_)
  refine v_X11_sumOfBest_11 (fun S23 hS23 => ?_) FU S1 0 hS1
  refine v_X11_sumOfBest_139 hS23 (fun x34 hS23 => ?_) FU 0 0 hS23
  exact f_some hS23
abbrev rm_X11_champion : Room := { frames := 5, cells := 0, slots := 0, locals := 121 }
theorem kY_X11_champion : kY yX11_champion cX11_champion 7 (some .int) 2 := ⟨kw_1_1, kw_5_35, by decide, by decide, by decide +kernel⟩
def L_X11_champion_27 (c1 : Int32) (k8 : CS → Int32 → Int32 → Option (Int32 × CS)) : Nat → CS → Int32 → Int32 → Int32 → Option (Int32 × CS) := lo4 fun rec6 S5 x2 x3 x4 =>
  (if (S5.1 9) ≤ x4 then
  k8 S5 x2 x3
 else
  bw (f_X11_sumOfBest S5 x4 (-1) c1) (fun x10 S11 =>
  (if x10 ≤ x3 then
  lt (x4 + 1) fun x12 =>
  rec6 S11 x2 x3 x12
 else
  lt (x4 + 1) fun x13 =>
  rec6 S11 x4 x10 x13)))
set_option maxRecDepth 100000 in
set_option maxHeartbeats 4000000 in
theorem l_X11_champion_27 {X : KX} {g : KG} {q : Nat → Nat} {E : va_W} {res : Int32 × CS} (C : kC X g cX11_champion "MarkChains" rm_X11_champion 7) (hR : ∀ (pc : Nat) (lv : List (Nat × Value)), decode cX11_champion pc = .ok (.ireturn, 1) → jW X g (cx g q E res.2) 0 0 pc lv [.int res.1]) (c1 : Int32) (c2 : Int32) (k8 : CS → Int32 → Int32 → Option (Int32 × CS)) (hk9 : ∀ (S14 : CS) (x15 : Int32) (x16 : Int32), jJ X g res (cx g q E S14) 0 0 72 [(2, .int c2), (3, .int x15), (4, .int x16)] [] (k8 S14 x15 x16)) : ∀ (n : Nat) (S5 : CS) (x2 : Int32) (x3 : Int32) (x4 : Int32), jJ X g res (cx g q E S5) 0 0 27 [(0, .ref (q 0)), (1, .int c1), (2, .int c2), (3, .int x2), (4, .int x3), (5, .int x4)] [] (L_X11_champion_27 c1 k8 n S5 x2 x3 x4) := by
  refine r_lo4 (fun S5 x2 x3 x4 => cx g q E S5) (fun S5 x2 x3 x4 => [(0, .ref (q 0)), (1, .int c1), (2, .int c2), (3, .int x2), (4, .int x3), (5, .int x4)]) (fun rec6 ih7 S5 x2 x3 x4 => ?_)
  refine r_iload (pc := 27) C dX11_champion_27 5 rfl ?_
  refine r_aload_n (pc := 29) C dX11_champion_29 0 rfl ?_
  refine xg_x_book (pc := 30) C kw_2_75 dX11_champion_30 ?_
  refine xgN_bk_athletes (pc := 33) C knf_16 dX11_champion_33 ?_
  refine xgN_pa_size (pc := 36) C knf_9 dX11_champion_36 ?_
  refine r_icmp_ge 72 (pc := 39) C dX11_champion_39 (by decide) ?_ ?_
  · refine r_sub (lv' := [(2, .int c2), (3, .int x2), (4, .int x3)]) [2, 3, 4] rfl ?_
    exact hk9 S5 x2 x3
  · refine r_aload_n (pc := 42) C dX11_champion_42 0 rfl ?_
    refine r_iload (pc := 43) C dX11_champion_43 5 rfl ?_
    refine r_iconst (pc := 45) C dX11_champion_45 (v := (-1)) (by decide) ?_
    refine r_iload_n (pc := 46) C dX11_champion_46 1 rfl ?_
    refine r_cVwi (As := [.int x4, .int (-1), .int c1]) (st := []) (wf := cx g q E) (pc := 47) C (fun _ _ h => c_X11_sumOfBest h) kY_X11_sumOfBest kw_5_38 kw_0_31 kw_5_36 rfl ⟨Nat.le_of_ble_eq_true rfl, Nat.le_of_ble_eq_true rfl⟩ rfl rfl ⟨Nat.zero_le _, Nat.zero_le _⟩ 0 rfl rfl rfl (Nat.le_of_ble_eq_true rfl) dX11_champion_47 (fun x10 S11 => ?_)
    refine r_istore (pc := 50) C dX11_champion_50 (lv' := [(0, .ref (q 0)), (1, .int c1), (2, .int c2), (3, .int x2), (4, .int x3), (5, .int x4), (6, .int x10)]) (by decide) [1, 2, 3, 4, 5, 6, 0] rfl ?_
    refine r_iload (pc := 52) C dX11_champion_52 6 rfl ?_
    refine r_iload (pc := 54) C dX11_champion_54 4 rfl ?_
    refine r_icmp_le 66 (pc := 56) C dX11_champion_56 (by decide) ?_ ?_
    · refine r_iinc (pc := 66) C dX11_champion_66 (v := 1) (lv' := fun x12 => [(0, .ref (q 0)), (1, .int c1), (2, .int c2), (3, .int x2), (4, .int x3), (5, .int x12), (6, .int x10)]) 5 rfl (by decide) (by decide) [1, 2, 3, 4, 5, 0, 6] (fun _ => rfl) (fun x12 => ?_)
      refine r_goto 27 (pc := 69) C dX11_champion_69 (by decide) ?_
      refine r_sub (lv' := [(0, .ref (q 0)), (1, .int c1), (2, .int c2), (3, .int x2), (4, .int x3), (5, .int x12)]) [0, 1, 2, 3, 4, 5] rfl ?_
      exact ih7 S11 x2 x3 x12
    · refine r_iload (pc := 59) C dX11_champion_59 6 rfl ?_
      refine r_istore (pc := 61) C dX11_champion_61 (lv' := [(0, .ref (q 0)), (1, .int c1), (2, .int c2), (3, .int x2), (4, .int x10), (5, .int x4), (6, .int x10)]) (by decide) [1, 2, 3, 4, 0, 5, 6] rfl ?_
      refine r_iload (pc := 63) C dX11_champion_63 5 rfl ?_
      refine r_istore_n (pc := 65) C dX11_champion_65 (lv' := [(0, .ref (q 0)), (1, .int c1), (2, .int c2), (3, .int x4), (4, .int x10), (5, .int x4), (6, .int x10)]) (by decide) [1, 2, 3, 0, 4, 5, 6] rfl ?_
      refine r_iinc (pc := 66) C dX11_champion_66 (v := 1) (lv' := fun x13 => [(0, .ref (q 0)), (1, .int c1), (2, .int c2), (3, .int x4), (4, .int x10), (5, .int x13), (6, .int x10)]) 5 rfl (by decide) (by decide) [1, 2, 3, 4, 5, 0, 6] (fun _ => rfl) (fun x13 => ?_)
      refine r_goto 27 (pc := 69) C dX11_champion_69 (by decide) ?_
      refine r_sub (lv' := [(0, .ref (q 0)), (1, .int c1), (2, .int c2), (3, .int x4), (4, .int x10), (5, .int x13)]) [0, 1, 2, 3, 4, 5] rfl ?_
      exact ih7 S11 x4 x10 x13
set_option maxRecDepth 100000 in
theorem v_X11_champion_27 {S0 : CS} {c1 : Int32} {k8 : CS → Int32 → Int32 → Option (Int32 × CS)} (hk9 : ∀ (S14 : CS) (x15 : Int32) (x16 : Int32), (gI [25] [44, 52] S0) S14 → jf (gI [25] [44, 52] S0) Prod.snd (k8 S14 x15 x16)) : ∀ (n : Nat) (S5 : CS) (x2 : Int32) (x3 : Int32) (x4 : Int32), (gI [25] [44, 52] S0) S5 → jf (gI [25] [44, 52] S0) Prod.snd (L_X11_champion_27 c1 k8 n S5 x2 x3 x4) := by
  refine f_lo4 (I := (gI [25] [44, 52] S0)) (fun S5 x2 x3 x4 => S5) (fun rec6 ih7 S5 x2 x3 x4 hS5 => ?_)
  refine f_ite ?_ ?_
  · exact hk9 S5 x2 x3 hS5
  · refine f_bwS (fun _ _ h => gI_tr hS5 (w_X11_sumOfBest h) (by decide) (by decide)) (fun x10 S11 hS11 => ?_)
    refine f_ite ?_ ?_
    · refine f_lt (fun x12 => ?_)
      exact ih7 S11 x2 x3 x12 hS11
    · refine f_lt (fun x13 => ?_)
      exact ih7 S11 x4 x10 x13 hS11
def f_X11_champion (S : CS) (a1 : Int32) (a2 : Int32) : Option (Int32 × CS) :=
  bp (f_X11_isDay a1) (fun x1 =>
  (if x1 = true then
  (if a2 < 0 then
  some ((-2), S)
 else
  (if a2 ≤ 1 then
  L_X11_champion_27 a1 (fun S17 x18 x19 =>
  (if a2 = 0 then
  some (x18, S17)
 else
  some (x19, S17))) FU S (-1) 0 0
 else
  some ((-2), S)))
 else
  some ((-2), S)))
set_option maxRecDepth 100000 in
set_option maxHeartbeats 4000000 in
theorem c_X11_champion {g : KG} {q : Nat → Nat} {E : va_W} {S : CS} {a1 : Int32} {a2 : Int32} {r : Int32} {S' : CS} (h : f_X11_champion S a1 a2 = some (r, S')) : ∀ l, kM l yX11_champion cX11_champion 7 (some .int) rm_X11_champion g [.ref (q 0), .int a1, .int a2] (cx g q E S) (cx g q E S') (some (.int r)) 0 0 := by
  refine k_open_i (own := "MarkChains") (by decide) rfl (Nat.le_of_ble_eq_true rfl) (fun X C hR => ?_)
  refine (?_ : jJ X g ((r, S') : Int32 × CS) (cx g q E S) 0 0 0 [(0, .ref (q 0)), (1, .int a1), (2, .int a2)] [] (f_X11_champion S a1 a2)) h
  unfold f_X11_champion
  refine r_iload_n (pc := 0) C dX11_champion_0 1 rfl ?_
  refine r_cSpz (As := [.int a1]) (st := []) (pc := 1) C (fun _ h => c_X11_isDay h) kY_X11_isDay kw_4_114 kw_4_113 rfl ⟨Nat.le_of_ble_eq_true rfl, Nat.le_of_ble_eq_true rfl⟩ rfl rfl ⟨Nat.zero_le _, Nat.zero_le _⟩ rfl (Nat.le_of_ble_eq_true rfl) dX11_champion_1 (fun x1 => ?_)
  refine r_ifb_eq 16 (pc := 4) C dX11_champion_4 (by decide) ?_ ?_
  · refine r_bipush (pc := 16) C dX11_champion_16 (v := (-2)) (by decide) ?_
    exact r_retWI (wf := cx g q E) hR (pc := 18) dX11_champion_18
  · refine r_iload_n (pc := 7) C dX11_champion_7 2 rfl ?_
    refine r_if_lt 16 (pc := 8) C dX11_champion_8 (by decide) ?_ ?_
    · refine r_bipush (pc := 16) C dX11_champion_16 (v := (-2)) (by decide) ?_
      exact r_retWI (wf := cx g q E) hR (pc := 18) dX11_champion_18
    · refine r_iload_n (pc := 11) C dX11_champion_11 2 rfl ?_
      refine r_iconst (pc := 12) C dX11_champion_12 (v := 1) (by decide) ?_
      refine r_icmp_le 19 (pc := 13) C dX11_champion_13 (by decide) ?_ ?_
      · refine r_iconst (pc := 19) C dX11_champion_19 (v := (-1)) (by decide) ?_
        refine r_istore_n (pc := 20) C dX11_champion_20 (lv' := [(0, .ref (q 0)), (1, .int a1), (2, .int a2), (3, .int (-1))]) (by decide) [1, 2, 3, 0] rfl ?_
        refine r_iconst (pc := 21) C dX11_champion_21 (v := 0) (by decide) ?_
        refine r_istore (pc := 22) C dX11_champion_22 (lv' := [(0, .ref (q 0)), (1, .int a1), (2, .int a2), (3, .int (-1)), (4, .int 0)]) (by decide) [1, 2, 3, 4, 0] rfl ?_
        refine r_iconst (pc := 24) C dX11_champion_24 (v := 0) (by decide) ?_
        refine r_istore (pc := 25) C dX11_champion_25 (lv' := [(0, .ref (q 0)), (1, .int a1), (2, .int a2), (3, .int (-1)), (4, .int 0), (5, .int 0)]) (by decide) [1, 2, 3, 4, 5, 0] rfl ?_
        refine l_X11_champion_27 C hR a1 a2 _ (fun S17 x18 x19 => ?_) FU S (-1) 0 0
        refine r_iload_n (pc := 72) C dX11_champion_72 0 rfl ?_
        refine r_if_ne 80 (pc := 73) C dX11_champion_73 (by decide) ?_ ?_
        · refine r_iload (pc := 80) C dX11_champion_80 2 rfl ?_
          exact r_retWI (wf := cx g q E) hR (pc := 82) dX11_champion_82
        · refine r_iload_n (pc := 76) C dX11_champion_76 1 rfl ?_
          refine r_goto 82 (pc := 77) C dX11_champion_77 (by decide) ?_
          exact r_retWI (wf := cx g q E) hR (pc := 82) dX11_champion_82
      · refine r_bipush (pc := 16) C dX11_champion_16 (v := (-2)) (by decide) ?_
        exact r_retWI (wf := cx g q E) hR (pc := 18) dX11_champion_18
set_option maxRecDepth 100000 in
theorem w_X11_champion {S : CS} {a1 : Int32} {a2 : Int32} {r : Int32} {S' : CS} (h : f_X11_champion S a1 a2 = some (r, S')) : gI [25] [44, 52] S S' := by
  have hS : gI [25] [44, 52] S S := gI_rf
  refine (?_ : jf (gI [25] [44, 52] S) Prod.snd (f_X11_champion S a1 a2)) _ h
  unfold f_X11_champion
  refine f_bp (fun x1 => ?_)
  refine f_ite ?_ ?_
  · refine f_ite ?_ ?_
    · exact f_some hS
    · refine f_ite ?_ ?_
      · refine v_X11_champion_27 (fun S17 x18 x19 hS17 => ?_) FU S (-1) 0 0 hS
        refine f_ite ?_ ?_
        · exact f_some hS17
        · exact f_some hS17
      · exact f_some hS
  · exact f_some hS
abbrev rm_X11_table : Room := { frames := 5, cells := 0, slots := 0, locals := 121 }
theorem kY_X11_table : kY yX11_table cX11_table 3 (some .int) 2 := ⟨kw_1_1, kw_5_45, by decide, by decide, by decide +kernel⟩
def f_X11_table (S : CS) (a1 : Int32) (a2 : Int32) : Option (Int32 × CS) :=
  (if a1 < 0 then
  some ((-2), S)
 else
  (if 5 < a1 then
  some ((-2), S)
 else
  bp (f_X11_isDay a2) (fun x1 =>
  (if x1 = true then
  bw (f_X11_sumOfBest S (-1) a1 a2) (fun x2 S3 =>
  some (x2, S3))
 else
  some ((-2), S)))))
set_option maxRecDepth 100000 in
set_option maxHeartbeats 4000000 in
theorem c_X11_table {g : KG} {q : Nat → Nat} {E : va_W} {S : CS} {a1 : Int32} {a2 : Int32} {r : Int32} {S' : CS} (h : f_X11_table S a1 a2 = some (r, S')) : ∀ l, kM l yX11_table cX11_table 3 (some .int) rm_X11_table g [.ref (q 0), .int a1, .int a2] (cx g q E S) (cx g q E S') (some (.int r)) 0 0 := by
  refine k_open_i (own := "MarkChains") (by decide) rfl (Nat.le_of_ble_eq_true rfl) (fun X C hR => ?_)
  refine (?_ : jJ X g ((r, S') : Int32 × CS) (cx g q E S) 0 0 0 [(0, .ref (q 0)), (1, .int a1), (2, .int a2)] [] (f_X11_table S a1 a2)) h
  unfold f_X11_table
  refine r_iload_n (pc := 0) C dX11_table_0 1 rfl ?_
  refine r_if_lt 16 (pc := 1) C dX11_table_1 (by decide) ?_ ?_
  · refine r_bipush (pc := 16) C dX11_table_16 (v := (-2)) (by decide) ?_
    exact r_retWI (wf := cx g q E) hR (pc := 18) dX11_table_18
  · refine r_iload_n (pc := 4) C dX11_table_4 1 rfl ?_
    refine r_iconst (pc := 5) C dX11_table_5 (v := 5) (by decide) ?_
    refine r_icmp_gt 16 (pc := 6) C dX11_table_6 (by decide) ?_ ?_
    · refine r_bipush (pc := 16) C dX11_table_16 (v := (-2)) (by decide) ?_
      exact r_retWI (wf := cx g q E) hR (pc := 18) dX11_table_18
    · refine r_iload_n (pc := 9) C dX11_table_9 2 rfl ?_
      refine r_cSpz (As := [.int a2]) (st := []) (pc := 10) C (fun _ h => c_X11_isDay h) kY_X11_isDay kw_4_114 kw_4_113 rfl ⟨Nat.le_of_ble_eq_true rfl, Nat.le_of_ble_eq_true rfl⟩ rfl rfl ⟨Nat.zero_le _, Nat.zero_le _⟩ rfl (Nat.le_of_ble_eq_true rfl) dX11_table_10 (fun x1 => ?_)
      refine r_ifb_ne 19 (pc := 13) C dX11_table_13 (by decide) ?_ ?_
      · refine r_aload_n (pc := 19) C dX11_table_19 0 rfl ?_
        refine r_iconst (pc := 20) C dX11_table_20 (v := (-1)) (by decide) ?_
        refine r_iload_n (pc := 21) C dX11_table_21 1 rfl ?_
        refine r_iload_n (pc := 22) C dX11_table_22 2 rfl ?_
        refine r_cVwi (As := [.int (-1), .int a1, .int a2]) (st := []) (wf := cx g q E) (pc := 23) C (fun _ _ h => c_X11_sumOfBest h) kY_X11_sumOfBest kw_5_38 kw_0_31 kw_5_36 rfl ⟨Nat.le_of_ble_eq_true rfl, Nat.le_of_ble_eq_true rfl⟩ rfl rfl ⟨Nat.zero_le _, Nat.zero_le _⟩ 0 rfl rfl rfl (Nat.le_of_ble_eq_true rfl) dX11_table_23 (fun x2 S3 => ?_)
        exact r_retWI (wf := cx g q E) hR (pc := 26) dX11_table_26
      · refine r_bipush (pc := 16) C dX11_table_16 (v := (-2)) (by decide) ?_
        exact r_retWI (wf := cx g q E) hR (pc := 18) dX11_table_18
set_option maxRecDepth 100000 in
theorem w_X11_table {S : CS} {a1 : Int32} {a2 : Int32} {r : Int32} {S' : CS} (h : f_X11_table S a1 a2 = some (r, S')) : gI [25] [44, 52] S S' := by
  have hS : gI [25] [44, 52] S S := gI_rf
  refine (?_ : jf (gI [25] [44, 52] S) Prod.snd (f_X11_table S a1 a2)) _ h
  unfold f_X11_table
  refine f_ite ?_ ?_
  · exact f_some hS
  · refine f_ite ?_ ?_
    · exact f_some hS
    · refine f_bp (fun x1 => ?_)
      refine f_ite ?_ ?_
      · refine f_bwS (fun _ _ h => gI_tr hS (w_X11_sumOfBest h) (by decide) (by decide)) (fun x2 S3 hS3 => ?_)
        exact f_some hS3
      · exact f_some hS
abbrev rm_X1_isMet : Room := { frames := 0, cells := 0, slots := 0, locals := 0 }
theorem kY_X1_isMet : kY yX1_isMet cX1_isMet 3 (some .boolean) 2 := ⟨kw_1_3, kw_5_53, by decide, by decide, by decide +kernel⟩
def f_X1_isMet (S : CS) (a1 : Int32) (a2 : Int32) : Option (Bool) :=
  chk a1 60 (
  (if (S.2.1 23 a1.toNatClampNeg) = (-1) then
  chk a1 60 (
  chk a2 60 (
  (if (S.2.1 13 a1.toNatClampNeg) = (S.2.1 13 a2.toNatClampNeg) then
  chk a1 60 (
  chk a2 60 (
  (if (S.2.1 15 a1.toNatClampNeg) = (S.2.1 15 a2.toNatClampNeg) then
  chk a1 60 (
  chk a2 60 (
  (if (S.2.1 16 a1.toNatClampNeg) = (S.2.1 16 a2.toNatClampNeg) then
  some true
 else
  some false)))
 else
  some false)))
 else
  some false)))
 else
  some false))
set_option maxRecDepth 100000 in
set_option maxHeartbeats 4000000 in
theorem c_X1_isMet {g : KG} {q : Nat → Nat} {E : va_W} {S : CS} {a1 : Int32} {a2 : Int32} {r : Bool} (h : f_X1_isMet S a1 a2 = some r) : ∀ l, kM l yX1_isMet cX1_isMet 3 (some .boolean) rm_X1_isMet g [.ref (q 3), .int a1, .int a2] (cx g q E S) (cx g q E S) (some (.int (b2 r))) 0 0 := by
  refine k_open_z (own := "MarkChains$Book") (by decide) rfl (Nat.le_of_ble_eq_true rfl) (fun X C hR => ?_)
  refine (?_ : jJ X g (r : Bool) (cx g q E S) 0 0 0 [(0, .ref (q 3)), (1, .int a1), (2, .int a2)] [] (f_X1_isMet S a1 a2)) h
  unfold f_X1_isMet
  refine r_aload_n (pc := 0) C dX1_isMet_0 0 rfl ?_
  refine xg_bk_struck (pc := 1) C kw_1_121 dX1_isMet_1 ?_
  refine r_iload_n (pc := 4) C dX1_isMet_4 1 rfl ?_
  refine xl_bk_struck (pc := 5) C dX1_isMet_5 ?_
  refine r_iconst (pc := 6) C dX1_isMet_6 (v := (-1)) (by decide) ?_
  refine r_icmp_ne 59 (pc := 7) C dX1_isMet_7 (by decide) ?_ ?_
  · refine r_iconst (pc := 59) C dX1_isMet_59 (v := 0) (by decide) ?_
    exact r_retPZ hR rfl (pc := 60) dX1_isMet_60
  · refine r_aload_n (pc := 10) C dX1_isMet_10 0 rfl ?_
    refine xg_bk_event (pc := 11) C kw_1_101 dX1_isMet_11 ?_
    refine r_iload_n (pc := 14) C dX1_isMet_14 1 rfl ?_
    refine xl_bk_event (pc := 15) C dX1_isMet_15 ?_
    refine r_aload_n (pc := 16) C dX1_isMet_16 0 rfl ?_
    refine xg_bk_event (pc := 17) C kw_1_101 dX1_isMet_17 ?_
    refine r_iload_n (pc := 20) C dX1_isMet_20 2 rfl ?_
    refine xl_bk_event (pc := 21) C dX1_isMet_21 ?_
    refine r_icmp_ne 59 (pc := 22) C dX1_isMet_22 (by decide) ?_ ?_
    · refine r_iconst (pc := 59) C dX1_isMet_59 (v := 0) (by decide) ?_
      exact r_retPZ hR rfl (pc := 60) dX1_isMet_60
    · refine r_aload_n (pc := 25) C dX1_isMet_25 0 rfl ?_
      refine xg_bk_place (pc := 26) C kw_1_106 dX1_isMet_26 ?_
      refine r_iload_n (pc := 29) C dX1_isMet_29 1 rfl ?_
      refine xl_bk_place (pc := 30) C dX1_isMet_30 ?_
      refine r_aload_n (pc := 31) C dX1_isMet_31 0 rfl ?_
      refine xg_bk_place (pc := 32) C kw_1_106 dX1_isMet_32 ?_
      refine r_iload_n (pc := 35) C dX1_isMet_35 2 rfl ?_
      refine xl_bk_place (pc := 36) C dX1_isMet_36 ?_
      refine r_icmp_ne 59 (pc := 37) C dX1_isMet_37 (by decide) ?_ ?_
      · refine r_iconst (pc := 59) C dX1_isMet_59 (v := 0) (by decide) ?_
        exact r_retPZ hR rfl (pc := 60) dX1_isMet_60
      · refine r_aload_n (pc := 40) C dX1_isMet_40 0 rfl ?_
        refine xg_bk_day (pc := 41) C kw_1_107 dX1_isMet_41 ?_
        refine r_iload_n (pc := 44) C dX1_isMet_44 1 rfl ?_
        refine xl_bk_day (pc := 45) C dX1_isMet_45 ?_
        refine r_aload_n (pc := 46) C dX1_isMet_46 0 rfl ?_
        refine xg_bk_day (pc := 47) C kw_1_107 dX1_isMet_47 ?_
        refine r_iload_n (pc := 50) C dX1_isMet_50 2 rfl ?_
        refine xl_bk_day (pc := 51) C dX1_isMet_51 ?_
        refine r_icmp_ne 59 (pc := 52) C dX1_isMet_52 (by decide) ?_ ?_
        · refine r_iconst (pc := 59) C dX1_isMet_59 (v := 0) (by decide) ?_
          exact r_retPZ hR rfl (pc := 60) dX1_isMet_60
        · refine r_iconst (pc := 55) C dX1_isMet_55 (v := 1) (by decide) ?_
          refine r_goto 60 (pc := 56) C dX1_isMet_56 (by decide) ?_
          exact r_retPZ hR rfl (pc := 60) dX1_isMet_60
abbrev rm_X11_placed : Room := { frames := 3, cells := 0, slots := 0, locals := 65 }
theorem kY_X11_placed : kY yX11_placed cX11_placed 4 (some .int) 1 := ⟨kw_1_1, kw_5_49, by decide, by decide, by decide +kernel⟩
def L_X11_placed_33 (S : CS) (c1 : Int32) (k6 : Int32 → Option (Int32)) : Nat → Int32 → Int32 → Option (Int32) := lo2 fun rec4 x2 x3 =>
  (if (S.1 6) ≤ x3 then
  k6 x2
 else
  bp (f_X1_isMet S x3 c1) (fun x8 =>
  (if x8 = true then
  bp (f_X1_isBetter S x3 c1) (fun x10 =>
  (if x10 = true then
  lt (x2 + 1) fun x12 =>
  lt (x3 + 1) fun x13 =>
  rec4 x12 x13
 else
  lt (x3 + 1) fun x11 =>
  rec4 x2 x11))
 else
  lt (x3 + 1) fun x9 =>
  rec4 x2 x9)))
set_option maxRecDepth 100000 in
set_option maxHeartbeats 4000000 in
theorem l_X11_placed_33 {X : KX} {g : KG} {q : Nat → Nat} {E : va_W} {res : Int32} {S : CS} (C : kC X g cX11_placed "MarkChains" rm_X11_placed 4) (hR : ∀ (pc : Nat) (lv : List (Nat × Value)), decode cX11_placed pc = .ok (.ireturn, 1) → jW X g (cx g q E S) 0 0 pc lv [.int res]) (c1 : Int32) (k6 : Int32 → Option (Int32)) (hk7 : ∀ (x14 : Int32), jJ X g res (cx g q E S) 0 0 77 [(2, .int x14)] [] (k6 x14)) : ∀ (n : Nat) (x2 : Int32) (x3 : Int32), jJ X g res (cx g q E S) 0 0 33 [(0, .ref (q 0)), (1, .int c1), (2, .int x2), (3, .int x3)] [] (L_X11_placed_33 S c1 k6 n x2 x3) := by
  refine r_lo2 (fun x2 x3 => cx g q E S) (fun x2 x3 => [(0, .ref (q 0)), (1, .int c1), (2, .int x2), (3, .int x3)]) (fun rec4 ih5 x2 x3 => ?_)
  refine r_iload_n (pc := 33) C dX11_placed_33 3 rfl ?_
  refine r_aload_n (pc := 34) C dX11_placed_34 0 rfl ?_
  refine xg_x_book (pc := 35) C kw_2_75 dX11_placed_35 ?_
  refine xgN_bk_size (pc := 38) C knf_30 dX11_placed_38 ?_
  refine r_icmp_ge 77 (pc := 41) C dX11_placed_41 (by decide) ?_ ?_
  · refine r_sub (lv' := [(2, .int x2)]) [2] rfl ?_
    exact hk7 x2
  · refine r_aload_n (pc := 44) C dX11_placed_44 0 rfl ?_
    refine xg_x_book (pc := 45) C kw_2_75 dX11_placed_45 ?_
    refine r_iload_n (pc := 48) C dX11_placed_48 3 rfl ?_
    refine r_iload_n (pc := 49) C dX11_placed_49 1 rfl ?_
    refine r_cVpz (As := [.int x3, .int c1]) (st := []) (pc := 50) C (fun _ h => c_X1_isMet h) kY_X1_isMet kw_5_51 kw_5_52 kw_5_50 rfl ⟨Nat.le_of_ble_eq_true rfl, Nat.le_of_ble_eq_true rfl⟩ rfl rfl ⟨Nat.zero_le _, Nat.zero_le _⟩ 3 rfl rfl rfl (Nat.le_of_ble_eq_true rfl) dX11_placed_50 (fun x8 => ?_)
    refine r_ifb_eq 71 (pc := 53) C dX11_placed_53 (by decide) ?_ ?_
    · refine r_iinc (pc := 71) C dX11_placed_71 (v := 1) (lv' := fun x9 => [(0, .ref (q 0)), (1, .int c1), (2, .int x2), (3, .int x9)]) 3 rfl (by decide) (by decide) [1, 2, 3, 0] (fun _ => rfl) (fun x9 => ?_)
      refine r_goto 33 (pc := 74) C dX11_placed_74 (by decide) ?_
      exact ih5 x2 x9
    · refine r_aload_n (pc := 56) C dX11_placed_56 0 rfl ?_
      refine xg_x_book (pc := 57) C kw_2_75 dX11_placed_57 ?_
      refine r_iload_n (pc := 60) C dX11_placed_60 3 rfl ?_
      refine r_iload_n (pc := 61) C dX11_placed_61 1 rfl ?_
      refine r_cVpz (As := [.int x3, .int c1]) (st := []) (pc := 62) C (fun _ h => c_X1_isBetter h) kY_X1_isBetter kw_4_126 kw_4_127 kw_5_54 rfl ⟨Nat.le_of_ble_eq_true rfl, Nat.le_of_ble_eq_true rfl⟩ rfl rfl ⟨Nat.zero_le _, Nat.zero_le _⟩ 3 rfl rfl rfl (Nat.le_of_ble_eq_true rfl) dX11_placed_62 (fun x10 => ?_)
      refine r_ifb_eq 71 (pc := 65) C dX11_placed_65 (by decide) ?_ ?_
      · refine r_iinc (pc := 71) C dX11_placed_71 (v := 1) (lv' := fun x11 => [(0, .ref (q 0)), (1, .int c1), (2, .int x2), (3, .int x11)]) 3 rfl (by decide) (by decide) [1, 2, 3, 0] (fun _ => rfl) (fun x11 => ?_)
        refine r_goto 33 (pc := 74) C dX11_placed_74 (by decide) ?_
        exact ih5 x2 x11
      · refine r_iinc (pc := 68) C dX11_placed_68 (v := 1) (lv' := fun x12 => [(0, .ref (q 0)), (1, .int c1), (2, .int x12), (3, .int x3)]) 2 rfl (by decide) (by decide) [1, 2, 0, 3] (fun _ => rfl) (fun x12 => ?_)
        refine r_iinc (pc := 71) C dX11_placed_71 (v := 1) (lv' := fun x13 => [(0, .ref (q 0)), (1, .int c1), (2, .int x12), (3, .int x13)]) 3 rfl (by decide) (by decide) [1, 2, 3, 0] (fun _ => rfl) (fun x13 => ?_)
        refine r_goto 33 (pc := 74) C dX11_placed_74 (by decide) ?_
        exact ih5 x12 x13
def f_X11_placed (S : CS) (a1 : Int32) : Option (Int32) :=
  bp (f_X1_hasMark S a1) (fun x1 =>
  (if x1 = true then
  chk a1 60 (
  (if (S.2.1 23 a1.toNatClampNeg) = (-1) then
  L_X11_placed_33 S a1 (fun x15 =>
  some x15) FU 0 0
 else
  some (-1)))
 else
  some (-2)))
set_option maxRecDepth 100000 in
set_option maxHeartbeats 4000000 in
theorem c_X11_placed {g : KG} {q : Nat → Nat} {E : va_W} {S : CS} {a1 : Int32} {r : Int32} (h : f_X11_placed S a1 = some r) : ∀ l, kM l yX11_placed cX11_placed 4 (some .int) rm_X11_placed g [.ref (q 0), .int a1] (cx g q E S) (cx g q E S) (some (.int r)) 0 0 := by
  refine k_open_i (own := "MarkChains") (by decide) rfl (Nat.le_of_ble_eq_true rfl) (fun X C hR => ?_)
  refine (?_ : jJ X g (r : Int32) (cx g q E S) 0 0 0 [(0, .ref (q 0)), (1, .int a1)] [] (f_X11_placed S a1)) h
  unfold f_X11_placed
  refine r_aload_n (pc := 0) C dX11_placed_0 0 rfl ?_
  refine xg_x_book (pc := 1) C kw_2_75 dX11_placed_1 ?_
  refine r_iload_n (pc := 4) C dX11_placed_4 1 rfl ?_
  refine r_cVpz (As := [.int a1]) (st := []) (pc := 5) C (fun _ h => c_X1_hasMark h) kY_X1_hasMark kw_4_44 kw_4_45 kw_4_43 rfl ⟨Nat.le_of_ble_eq_true rfl, Nat.le_of_ble_eq_true rfl⟩ rfl rfl ⟨Nat.zero_le _, Nat.zero_le _⟩ 3 rfl rfl rfl (Nat.le_of_ble_eq_true rfl) dX11_placed_5 (fun x1 => ?_)
  refine r_ifb_ne 14 (pc := 8) C dX11_placed_8 (by decide) ?_ ?_
  · refine r_aload_n (pc := 14) C dX11_placed_14 0 rfl ?_
    refine xg_x_book (pc := 15) C kw_2_75 dX11_placed_15 ?_
    refine xgN_bk_struck (pc := 18) C knf_27 dX11_placed_18 ?_
    refine r_iload_n (pc := 21) C dX11_placed_21 1 rfl ?_
    refine xl_bk_struck (pc := 22) C dX11_placed_22 ?_
    refine r_iconst (pc := 23) C dX11_placed_23 (v := (-1)) (by decide) ?_
    refine r_icmp_eq 29 (pc := 24) C dX11_placed_24 (by decide) ?_ ?_
    · refine r_iconst (pc := 29) C dX11_placed_29 (v := 0) (by decide) ?_
      refine r_istore_n (pc := 30) C dX11_placed_30 (lv' := [(0, .ref (q 0)), (1, .int a1), (2, .int 0)]) (by decide) [1, 2, 0] rfl ?_
      refine r_iconst (pc := 31) C dX11_placed_31 (v := 0) (by decide) ?_
      refine r_istore_n (pc := 32) C dX11_placed_32 (lv' := [(0, .ref (q 0)), (1, .int a1), (2, .int 0), (3, .int 0)]) (by decide) [1, 2, 3, 0] rfl ?_
      refine l_X11_placed_33 C hR a1 _ (fun x15 => ?_) FU 0 0
      refine r_iload_n (pc := 77) C dX11_placed_77 0 rfl ?_
      exact r_retPI hR (pc := 78) dX11_placed_78
    · refine r_iconst (pc := 27) C dX11_placed_27 (v := (-1)) (by decide) ?_
      exact r_retPI hR (pc := 28) dX11_placed_28
  · refine r_bipush (pc := 11) C dX11_placed_11 (v := (-2)) (by decide) ?_
    exact r_retPI hR (pc := 13) dX11_placed_13
abbrev rm_X1_bestInMeeting : Room := { frames := 3, cells := 0, slots := 0, locals := 65 }
theorem kY_X1_bestInMeeting : kY yX1_bestInMeeting cX1_bestInMeeting 5 (some .int) 2 := ⟨kw_1_3, kw_5_62, by decide, by decide, by decide +kernel⟩
def L_X1_bestInMeeting_5 (S : CS) (c1 : Int32) (c2 : Int32) (k5 : Int32 → Option (Int32)) : Nat → Int32 → Int32 → Option (Int32) := lo2 fun rec3 x1 x2 =>
  (if (S.1 6) ≤ x2 then
  k5 x1
 else
  chk x2 60 (
  (if (S.2.1 14 x2.toNatClampNeg) = c2 then
  bp (f_X1_isMet S x2 c1) (fun x8 =>
  (if x8 = true then
  jn0 (lt (x2 + 1) fun x10 =>
  rec3 x2 x10) (fun k11 =>
  (if x1 = (-1) then
  k11
 else
  bp (f_X1_isBetter S x2 x1) (fun x13 =>
  (if x13 = true then
  k11
 else
  lt (x2 + 1) fun x14 =>
  rec3 x1 x14))))
 else
  lt (x2 + 1) fun x9 =>
  rec3 x1 x9))
 else
  lt (x2 + 1) fun x7 =>
  rec3 x1 x7)))
set_option maxRecDepth 100000 in
set_option maxHeartbeats 4000000 in
theorem l_X1_bestInMeeting_5 {X : KX} {g : KG} {q : Nat → Nat} {E : va_W} {res : Int32} {S : CS} (C : kC X g cX1_bestInMeeting "MarkChains$Book" rm_X1_bestInMeeting 5) (hR : ∀ (pc : Nat) (lv : List (Nat × Value)), decode cX1_bestInMeeting pc = .ok (.ireturn, 1) → jW X g (cx g q E S) 0 0 pc lv [.int res]) (c1 : Int32) (c2 : Int32) (k5 : Int32 → Option (Int32)) (hk6 : ∀ (x15 : Int32), jJ X g res (cx g q E S) 0 0 59 [(3, .int x15)] [] (k5 x15)) : ∀ (n : Nat) (x1 : Int32) (x2 : Int32), jJ X g res (cx g q E S) 0 0 5 [(0, .ref (q 3)), (1, .int c1), (2, .int c2), (3, .int x1), (4, .int x2)] [] (L_X1_bestInMeeting_5 S c1 c2 k5 n x1 x2) := by
  refine r_lo2 (fun x1 x2 => cx g q E S) (fun x1 x2 => [(0, .ref (q 3)), (1, .int c1), (2, .int c2), (3, .int x1), (4, .int x2)]) (fun rec3 ih4 x1 x2 => ?_)
  refine r_iload (pc := 5) C dX1_bestInMeeting_5 4 rfl ?_
  refine r_aload_n (pc := 7) C dX1_bestInMeeting_7 0 rfl ?_
  refine xg_bk_size (pc := 8) C kw_1_125 dX1_bestInMeeting_8 ?_
  refine r_icmp_ge 59 (pc := 11) C dX1_bestInMeeting_11 (by decide) ?_ ?_
  · refine r_sub (lv' := [(3, .int x1)]) [3] rfl ?_
    exact hk6 x1
  · refine r_aload_n (pc := 14) C dX1_bestInMeeting_14 0 rfl ?_
    refine xg_bk_athlete (pc := 15) C kw_1_103 dX1_bestInMeeting_15 ?_
    refine r_iload (pc := 18) C dX1_bestInMeeting_18 4 rfl ?_
    refine xl_bk_athlete (pc := 20) C dX1_bestInMeeting_20 ?_
    refine r_iload_n (pc := 21) C dX1_bestInMeeting_21 2 rfl ?_
    refine r_icmp_ne 53 (pc := 22) C dX1_bestInMeeting_22 (by decide) ?_ ?_
    · refine r_iinc (pc := 53) C dX1_bestInMeeting_53 (v := 1) (lv' := fun x7 => [(0, .ref (q 3)), (1, .int c1), (2, .int c2), (3, .int x1), (4, .int x7)]) 4 rfl (by decide) (by decide) [1, 2, 3, 4, 0] (fun _ => rfl) (fun x7 => ?_)
      refine r_goto 5 (pc := 56) C dX1_bestInMeeting_56 (by decide) ?_
      exact ih4 x1 x7
    · refine r_aload_n (pc := 25) C dX1_bestInMeeting_25 0 rfl ?_
      refine r_iload (pc := 26) C dX1_bestInMeeting_26 4 rfl ?_
      refine r_iload_n (pc := 28) C dX1_bestInMeeting_28 1 rfl ?_
      refine r_cVpz (As := [.int x2, .int c1]) (st := []) (pc := 29) C (fun _ h => c_X1_isMet h) kY_X1_isMet kw_5_51 kw_5_52 kw_5_63 rfl ⟨Nat.le_of_ble_eq_true rfl, Nat.le_of_ble_eq_true rfl⟩ rfl rfl ⟨Nat.zero_le _, Nat.zero_le _⟩ 3 rfl rfl rfl (Nat.le_of_ble_eq_true rfl) dX1_bestInMeeting_29 (fun x8 => ?_)
      refine r_ifb_eq 53 (pc := 32) C dX1_bestInMeeting_32 (by decide) ?_ ?_
      · refine r_iinc (pc := 53) C dX1_bestInMeeting_53 (v := 1) (lv' := fun x9 => [(0, .ref (q 3)), (1, .int c1), (2, .int c2), (3, .int x1), (4, .int x9)]) 4 rfl (by decide) (by decide) [1, 2, 3, 4, 0] (fun _ => rfl) (fun x9 => ?_)
        refine r_goto 5 (pc := 56) C dX1_bestInMeeting_56 (by decide) ?_
        exact ih4 x1 x9
      · refine r_iload_n (pc := 35) C dX1_bestInMeeting_35 3 rfl ?_
        refine r_iconst (pc := 36) C dX1_bestInMeeting_36 (v := (-1)) (by decide) ?_
        refine r_jn0 50 (cx g q E S) ([(0, .ref (q 3)), (1, .int c1), (2, .int c2), (4, .int x2)]) ([]) ?_ (fun k11 hk12 => ?_)
        · refine r_iload (pc := 50) C dX1_bestInMeeting_50 3 rfl ?_
          refine r_istore_n (pc := 52) C dX1_bestInMeeting_52 (lv' := [(0, .ref (q 3)), (1, .int c1), (2, .int c2), (3, .int x2), (4, .int x2)]) (by decide) [1, 2, 3, 0, 4] rfl ?_
          refine r_iinc (pc := 53) C dX1_bestInMeeting_53 (v := 1) (lv' := fun x10 => [(0, .ref (q 3)), (1, .int c1), (2, .int c2), (3, .int x2), (4, .int x10)]) 4 rfl (by decide) (by decide) [1, 2, 3, 4, 0] (fun _ => rfl) (fun x10 => ?_)
          refine r_goto 5 (pc := 56) C dX1_bestInMeeting_56 (by decide) ?_
          exact ih4 x2 x10
        · refine r_icmp_eq 50 (pc := 37) C dX1_bestInMeeting_37 (by decide) ?_ ?_
          · refine r_sub (lv' := [(0, .ref (q 3)), (1, .int c1), (2, .int c2), (4, .int x2)]) [0, 1, 2, 4] rfl ?_
            exact hk12
          · refine r_aload_n (pc := 40) C dX1_bestInMeeting_40 0 rfl ?_
            refine r_iload (pc := 41) C dX1_bestInMeeting_41 4 rfl ?_
            refine r_iload_n (pc := 43) C dX1_bestInMeeting_43 3 rfl ?_
            refine r_cVpz (As := [.int x2, .int x1]) (st := []) (pc := 44) C (fun _ h => c_X1_isBetter h) kY_X1_isBetter kw_4_126 kw_4_127 kw_5_14 rfl ⟨Nat.le_of_ble_eq_true rfl, Nat.le_of_ble_eq_true rfl⟩ rfl rfl ⟨Nat.zero_le _, Nat.zero_le _⟩ 3 rfl rfl rfl (Nat.le_of_ble_eq_true rfl) dX1_bestInMeeting_44 (fun x13 => ?_)
            refine r_ifb_eq 53 (pc := 47) C dX1_bestInMeeting_47 (by decide) ?_ ?_
            · refine r_iinc (pc := 53) C dX1_bestInMeeting_53 (v := 1) (lv' := fun x14 => [(0, .ref (q 3)), (1, .int c1), (2, .int c2), (3, .int x1), (4, .int x14)]) 4 rfl (by decide) (by decide) [1, 2, 3, 4, 0] (fun _ => rfl) (fun x14 => ?_)
              refine r_goto 5 (pc := 56) C dX1_bestInMeeting_56 (by decide) ?_
              exact ih4 x1 x14
            · refine r_sub (lv' := [(0, .ref (q 3)), (1, .int c1), (2, .int c2), (4, .int x2)]) [0, 1, 2, 4] rfl ?_
              exact hk12
def f_X1_bestInMeeting (S : CS) (a1 : Int32) (a2 : Int32) : Option (Int32) :=
  L_X1_bestInMeeting_5 S a1 a2 (fun x16 =>
  some x16) FU (-1) 0
set_option maxRecDepth 100000 in
set_option maxHeartbeats 4000000 in
theorem c_X1_bestInMeeting {g : KG} {q : Nat → Nat} {E : va_W} {S : CS} {a1 : Int32} {a2 : Int32} {r : Int32} (h : f_X1_bestInMeeting S a1 a2 = some r) : ∀ l, kM l yX1_bestInMeeting cX1_bestInMeeting 5 (some .int) rm_X1_bestInMeeting g [.ref (q 3), .int a1, .int a2] (cx g q E S) (cx g q E S) (some (.int r)) 0 0 := by
  refine k_open_i (own := "MarkChains$Book") (by decide) rfl (Nat.le_of_ble_eq_true rfl) (fun X C hR => ?_)
  refine (?_ : jJ X g (r : Int32) (cx g q E S) 0 0 0 [(0, .ref (q 3)), (1, .int a1), (2, .int a2)] [] (f_X1_bestInMeeting S a1 a2)) h
  unfold f_X1_bestInMeeting
  refine r_iconst (pc := 0) C dX1_bestInMeeting_0 (v := (-1)) (by decide) ?_
  refine r_istore_n (pc := 1) C dX1_bestInMeeting_1 (lv' := [(0, .ref (q 3)), (1, .int a1), (2, .int a2), (3, .int (-1))]) (by decide) [1, 2, 3, 0] rfl ?_
  refine r_iconst (pc := 2) C dX1_bestInMeeting_2 (v := 0) (by decide) ?_
  refine r_istore (pc := 3) C dX1_bestInMeeting_3 (lv' := [(0, .ref (q 3)), (1, .int a1), (2, .int a2), (3, .int (-1)), (4, .int 0)]) (by decide) [1, 2, 3, 4, 0] rfl ?_
  refine l_X1_bestInMeeting_5 C hR a1 a2 _ (fun x16 => ?_) FU (-1) 0
  refine r_iload_n (pc := 59) C dX1_bestInMeeting_59 0 rfl ?_
  exact r_retPI hR (pc := 60) dX1_bestInMeeting_60
abbrev rm_X11_duel : Room := { frames := 4, cells := 0, slots := 0, locals := 89 }
theorem kY_X11_duel : kY yX11_duel cX11_duel 6 (some .int) 2 := ⟨kw_1_1, kw_5_58, by decide, by decide, by decide +kernel⟩
def L_X11_duel_41 (S : CS) (c1 : Int32) (c2 : Int32) (k7 : Int32 → Option (Int32)) : Nat → Int32 → Int32 → Option (Int32) := lo2 fun rec5 x3 x4 =>
  (if (S.1 6) ≤ x4 then
  k7 x3
 else
  bp (f_X1_bestInMeeting S x4 c1) (fun x9 =>
  (if x9 = x4 then
  bp (f_X1_bestInMeeting S x4 c2) (fun x11 =>
  (if x11 = (-1) then
  lt (x4 + 1) fun x12 =>
  rec5 x3 x12
 else
  bp (f_X1_isBetter S x4 x11) (fun x13 =>
  (if x13 = true then
  lt (x3 + 1) fun x15 =>
  lt (x4 + 1) fun x16 =>
  rec5 x15 x16
 else
  lt (x4 + 1) fun x14 =>
  rec5 x3 x14))))
 else
  lt (x4 + 1) fun x10 =>
  rec5 x3 x10)))
set_option maxRecDepth 100000 in
set_option maxHeartbeats 4000000 in
theorem l_X11_duel_41 {X : KX} {g : KG} {q : Nat → Nat} {E : va_W} {res : Int32} {S : CS} (C : kC X g cX11_duel "MarkChains" rm_X11_duel 6) (hR : ∀ (pc : Nat) (lv : List (Nat × Value)), decode cX11_duel pc = .ok (.ireturn, 1) → jW X g (cx g q E S) 0 0 pc lv [.int res]) (c1 : Int32) (c2 : Int32) (k7 : Int32 → Option (Int32)) (hk8 : ∀ (x17 : Int32), jJ X g res (cx g q E S) 0 0 109 [(3, .int x17)] [] (k7 x17)) : ∀ (n : Nat) (x3 : Int32) (x4 : Int32), jJ X g res (cx g q E S) 0 0 41 [(0, .ref (q 0)), (1, .int c1), (2, .int c2), (3, .int x3), (4, .int x4)] [] (L_X11_duel_41 S c1 c2 k7 n x3 x4) := by
  refine r_lo2 (fun x3 x4 => cx g q E S) (fun x3 x4 => [(0, .ref (q 0)), (1, .int c1), (2, .int c2), (3, .int x3), (4, .int x4)]) (fun rec5 ih6 x3 x4 => ?_)
  refine r_iload (pc := 41) C dX11_duel_41 4 rfl ?_
  refine r_aload_n (pc := 43) C dX11_duel_43 0 rfl ?_
  refine xg_x_book (pc := 44) C kw_2_75 dX11_duel_44 ?_
  refine xgN_bk_size (pc := 47) C knf_30 dX11_duel_47 ?_
  refine r_icmp_ge 109 (pc := 50) C dX11_duel_50 (by decide) ?_ ?_
  · refine r_sub (lv' := [(3, .int x3)]) [3] rfl ?_
    exact hk8 x3
  · refine r_aload_n (pc := 53) C dX11_duel_53 0 rfl ?_
    refine xg_x_book (pc := 54) C kw_2_75 dX11_duel_54 ?_
    refine r_iload (pc := 57) C dX11_duel_57 4 rfl ?_
    refine r_iload_n (pc := 59) C dX11_duel_59 1 rfl ?_
    refine r_cVpi (As := [.int x4, .int c1]) (st := []) (pc := 60) C (fun _ h => c_X1_bestInMeeting h) kY_X1_bestInMeeting kw_5_60 kw_5_61 kw_5_59 rfl ⟨Nat.le_of_ble_eq_true rfl, Nat.le_of_ble_eq_true rfl⟩ rfl rfl ⟨Nat.zero_le _, Nat.zero_le _⟩ 3 rfl rfl rfl (Nat.le_of_ble_eq_true rfl) dX11_duel_60 (fun x9 => ?_)
    refine r_iload (pc := 63) C dX11_duel_63 4 rfl ?_
    refine r_icmp_ne 103 (pc := 65) C dX11_duel_65 (by decide) ?_ ?_
    · refine r_iinc (pc := 103) C dX11_duel_103 (v := 1) (lv' := fun x10 => [(0, .ref (q 0)), (1, .int c1), (2, .int c2), (3, .int x3), (4, .int x10)]) 4 rfl (by decide) (by decide) [1, 2, 3, 4, 0] (fun _ => rfl) (fun x10 => ?_)
      refine r_goto 41 (pc := 106) C dX11_duel_106 (by decide) ?_
      exact ih6 x3 x10
    · refine r_aload_n (pc := 68) C dX11_duel_68 0 rfl ?_
      refine xg_x_book (pc := 69) C kw_2_75 dX11_duel_69 ?_
      refine r_iload (pc := 72) C dX11_duel_72 4 rfl ?_
      refine r_iload_n (pc := 74) C dX11_duel_74 2 rfl ?_
      refine r_cVpi (As := [.int x4, .int c2]) (st := []) (pc := 75) C (fun _ h => c_X1_bestInMeeting h) kY_X1_bestInMeeting kw_5_60 kw_5_61 kw_5_59 rfl ⟨Nat.le_of_ble_eq_true rfl, Nat.le_of_ble_eq_true rfl⟩ rfl rfl ⟨Nat.zero_le _, Nat.zero_le _⟩ 3 rfl rfl rfl (Nat.le_of_ble_eq_true rfl) dX11_duel_75 (fun x11 => ?_)
      refine r_istore (pc := 78) C dX11_duel_78 (lv' := [(0, .ref (q 0)), (1, .int c1), (2, .int c2), (3, .int x3), (4, .int x4), (5, .int x11)]) (by decide) [1, 2, 3, 4, 5, 0] rfl ?_
      refine r_iload (pc := 80) C dX11_duel_80 5 rfl ?_
      refine r_iconst (pc := 82) C dX11_duel_82 (v := (-1)) (by decide) ?_
      refine r_icmp_eq 103 (pc := 83) C dX11_duel_83 (by decide) ?_ ?_
      · refine r_iinc (pc := 103) C dX11_duel_103 (v := 1) (lv' := fun x12 => [(0, .ref (q 0)), (1, .int c1), (2, .int c2), (3, .int x3), (4, .int x12), (5, .int x11)]) 4 rfl (by decide) (by decide) [1, 2, 3, 4, 0, 5] (fun _ => rfl) (fun x12 => ?_)
        refine r_goto 41 (pc := 106) C dX11_duel_106 (by decide) ?_
        refine r_sub (lv' := [(0, .ref (q 0)), (1, .int c1), (2, .int c2), (3, .int x3), (4, .int x12)]) [0, 1, 2, 3, 4] rfl ?_
        exact ih6 x3 x12
      · refine r_aload_n (pc := 86) C dX11_duel_86 0 rfl ?_
        refine xg_x_book (pc := 87) C kw_2_75 dX11_duel_87 ?_
        refine r_iload (pc := 90) C dX11_duel_90 4 rfl ?_
        refine r_iload (pc := 92) C dX11_duel_92 5 rfl ?_
        refine r_cVpz (As := [.int x4, .int x11]) (st := []) (pc := 94) C (fun _ h => c_X1_isBetter h) kY_X1_isBetter kw_4_126 kw_4_127 kw_5_54 rfl ⟨Nat.le_of_ble_eq_true rfl, Nat.le_of_ble_eq_true rfl⟩ rfl rfl ⟨Nat.zero_le _, Nat.zero_le _⟩ 3 rfl rfl rfl (Nat.le_of_ble_eq_true rfl) dX11_duel_94 (fun x13 => ?_)
        refine r_ifb_eq 103 (pc := 97) C dX11_duel_97 (by decide) ?_ ?_
        · refine r_iinc (pc := 103) C dX11_duel_103 (v := 1) (lv' := fun x14 => [(0, .ref (q 0)), (1, .int c1), (2, .int c2), (3, .int x3), (4, .int x14), (5, .int x11)]) 4 rfl (by decide) (by decide) [1, 2, 3, 4, 0, 5] (fun _ => rfl) (fun x14 => ?_)
          refine r_goto 41 (pc := 106) C dX11_duel_106 (by decide) ?_
          refine r_sub (lv' := [(0, .ref (q 0)), (1, .int c1), (2, .int c2), (3, .int x3), (4, .int x14)]) [0, 1, 2, 3, 4] rfl ?_
          exact ih6 x3 x14
        · refine r_iinc (pc := 100) C dX11_duel_100 (v := 1) (lv' := fun x15 => [(0, .ref (q 0)), (1, .int c1), (2, .int c2), (3, .int x15), (4, .int x4), (5, .int x11)]) 3 rfl (by decide) (by decide) [1, 2, 3, 0, 4, 5] (fun _ => rfl) (fun x15 => ?_)
          refine r_iinc (pc := 103) C dX11_duel_103 (v := 1) (lv' := fun x16 => [(0, .ref (q 0)), (1, .int c1), (2, .int c2), (3, .int x15), (4, .int x16), (5, .int x11)]) 4 rfl (by decide) (by decide) [1, 2, 3, 4, 0, 5] (fun _ => rfl) (fun x16 => ?_)
          refine r_goto 41 (pc := 106) C dX11_duel_106 (by decide) ?_
          refine r_sub (lv' := [(0, .ref (q 0)), (1, .int c1), (2, .int c2), (3, .int x15), (4, .int x16)]) [0, 1, 2, 3, 4] rfl ?_
          exact ih6 x15 x16
def f_X11_duel (S : CS) (a1 : Int32) (a2 : Int32) : Option (Int32) :=
  bp (f_X8_has_pa S a1) (fun x1 =>
  (if x1 = true then
  bp (f_X8_has_pa S a2) (fun x2 =>
  (if x2 = true then
  (if a1 = a2 then
  some (-2)
 else
  L_X11_duel_41 S a1 a2 (fun x18 =>
  some x18) FU 0 0)
 else
  some (-2)))
 else
  some (-2)))
set_option maxRecDepth 100000 in
set_option maxHeartbeats 4000000 in
theorem c_X11_duel {g : KG} {q : Nat → Nat} {E : va_W} {S : CS} {a1 : Int32} {a2 : Int32} {r : Int32} (h : f_X11_duel S a1 a2 = some r) : ∀ l, kM l yX11_duel cX11_duel 6 (some .int) rm_X11_duel g [.ref (q 0), .int a1, .int a2] (cx g q E S) (cx g q E S) (some (.int r)) 0 0 := by
  refine k_open_i (own := "MarkChains") (by decide) rfl (Nat.le_of_ble_eq_true rfl) (fun X C hR => ?_)
  refine (?_ : jJ X g (r : Int32) (cx g q E S) 0 0 0 [(0, .ref (q 0)), (1, .int a1), (2, .int a2)] [] (f_X11_duel S a1 a2)) h
  unfold f_X11_duel
  refine r_aload_n (pc := 0) C dX11_duel_0 0 rfl ?_
  refine xg_x_book (pc := 1) C kw_2_75 dX11_duel_1 ?_
  refine xgN_bk_athletes (pc := 4) C knf_16 dX11_duel_4 ?_
  refine r_iload_n (pc := 7) C dX11_duel_7 1 rfl ?_
  refine r_cVpz (As := [.int a1]) (st := []) (pc := 8) C (fun _ h => c_X8_has_pa h) kY_X8_has kw_3_46 kw_3_47 kw_4_58 rfl ⟨Nat.le_of_ble_eq_true rfl, Nat.le_of_ble_eq_true rfl⟩ rfl rfl ⟨Nat.zero_le _, Nat.zero_le _⟩ 10 rfl rfl rfl (Nat.le_of_ble_eq_true rfl) dX11_duel_8 (fun x1 => ?_)
  refine r_ifb_eq 33 (pc := 11) C dX11_duel_11 (by decide) ?_ ?_
  · refine r_bipush (pc := 33) C dX11_duel_33 (v := (-2)) (by decide) ?_
    exact r_retPI hR (pc := 35) dX11_duel_35
  · refine r_aload_n (pc := 14) C dX11_duel_14 0 rfl ?_
    refine xg_x_book (pc := 15) C kw_2_75 dX11_duel_15 ?_
    refine xgN_bk_athletes (pc := 18) C knf_16 dX11_duel_18 ?_
    refine r_iload_n (pc := 21) C dX11_duel_21 2 rfl ?_
    refine r_cVpz (As := [.int a2]) (st := []) (pc := 22) C (fun _ h => c_X8_has_pa h) kY_X8_has kw_3_46 kw_3_47 kw_4_58 rfl ⟨Nat.le_of_ble_eq_true rfl, Nat.le_of_ble_eq_true rfl⟩ rfl rfl ⟨Nat.zero_le _, Nat.zero_le _⟩ 10 rfl rfl rfl (Nat.le_of_ble_eq_true rfl) dX11_duel_22 (fun x2 => ?_)
    refine r_ifb_eq 33 (pc := 25) C dX11_duel_25 (by decide) ?_ ?_
    · refine r_bipush (pc := 33) C dX11_duel_33 (v := (-2)) (by decide) ?_
      exact r_retPI hR (pc := 35) dX11_duel_35
    · refine r_iload_n (pc := 28) C dX11_duel_28 1 rfl ?_
      refine r_iload_n (pc := 29) C dX11_duel_29 2 rfl ?_
      refine r_icmp_ne 36 (pc := 30) C dX11_duel_30 (by decide) ?_ ?_
      · refine r_iconst (pc := 36) C dX11_duel_36 (v := 0) (by decide) ?_
        refine r_istore_n (pc := 37) C dX11_duel_37 (lv' := [(0, .ref (q 0)), (1, .int a1), (2, .int a2), (3, .int 0)]) (by decide) [1, 2, 3, 0] rfl ?_
        refine r_iconst (pc := 38) C dX11_duel_38 (v := 0) (by decide) ?_
        refine r_istore (pc := 39) C dX11_duel_39 (lv' := [(0, .ref (q 0)), (1, .int a1), (2, .int a2), (3, .int 0), (4, .int 0)]) (by decide) [1, 2, 3, 4, 0] rfl ?_
        refine l_X11_duel_41 C hR a1 a2 _ (fun x18 => ?_) FU 0 0
        refine r_iload_n (pc := 109) C dX11_duel_109 0 rfl ?_
        exact r_retPI hR (pc := 110) dX11_duel_110
      · refine r_bipush (pc := 33) C dX11_duel_33 (v := (-2)) (by decide) ?_
        exact r_retPI hR (pc := 35) dX11_duel_35
