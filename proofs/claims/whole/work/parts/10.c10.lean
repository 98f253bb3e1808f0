abbrev rm_J0_isLatin1_aae02_s1 : Room := { frames := 0, cells := 0, slots := 0, locals := 0 }
def f_J0_isLatin1_aae02_s1 : Option (Bool) :=
  (if (1 : Int32) = 0 then
  some false
 else
  (if (0 : Int32) = 0 then
  some true
 else
  some false))
set_option maxRecDepth 100000 in
set_option maxHeartbeats 4000000 in
theorem c_J0_isLatin1_aae02_s1 {g : KG} {ws : va_W}  {r : Bool} (h : f_J0_isLatin1_aae02_s1 = some r) : ∀ l, kM l yJ0_isLatin1_aae02 cJ0_isLatin1_aae02 1 (some .boolean) rm_J0_isLatin1_aae02_s1 g [.ref (g.2.2.2 6)] (ws) (ws) (some (.int (b2 r))) 0 0 := by
  refine k_open_z (own := "java/lang/String") (by decide) rfl (Nat.le_of_ble_eq_true rfl) (fun X C hR => ?_)
  refine (?_ : jJ X g (r : Bool) (ws) 0 0 0 [(0, .ref (g.2.2.2 6))] [] (f_J0_isLatin1_aae02_s1)) h
  unfold f_J0_isLatin1_aae02_s1
  refine r_gs_cs (pc := 0) C kw_2_167 dJ0_isLatin1_aae02_0 ?_
  refine r_if_eq 17 (pc := 3) C dJ0_isLatin1_aae02_3 (by decide) ?_ ?_
  · refine r_iconst (pc := 17) C dJ0_isLatin1_aae02_17 (v := 0) (by decide) ?_
    exact r_retPZ hR rfl (pc := 18) dJ0_isLatin1_aae02_18
  · refine r_aload_n (pc := 6) C dJ0_isLatin1_aae02_6 0 rfl ?_
    refine r_sc_1 (pc := 7) C kw_8_95 dJ0_isLatin1_aae02_7 ?_
    refine r_if_ne 17 (pc := 10) C dJ0_isLatin1_aae02_10 (by decide) ?_ ?_
    · refine r_iconst (pc := 17) C dJ0_isLatin1_aae02_17 (v := 0) (by decide) ?_
      exact r_retPZ hR rfl (pc := 18) dJ0_isLatin1_aae02_18
    · refine r_iconst (pc := 13) C dJ0_isLatin1_aae02_13 (v := 1) (by decide) ?_
      refine r_goto 18 (pc := 14) C dJ0_isLatin1_aae02_14 (by decide) ?_
      exact r_retPZ hR rfl (pc := 18) dJ0_isLatin1_aae02_18
abbrev rm_J0_coder_7d493_s1 : Room := { frames := 0, cells := 0, slots := 0, locals := 0 }
def f_J0_coder_7d493_s1 : Option (Int32) :=
  (if (1 : Int32) = 0 then
  some 1
 else
  some 0)
set_option maxRecDepth 100000 in
set_option maxHeartbeats 4000000 in
theorem c_J0_coder_7d493_s1 {g : KG} {ws : va_W}  {r : Int32} (h : f_J0_coder_7d493_s1 = some r) : ∀ l, kM l yJ0_coder_7d493 cJ0_coder_7d493 1 (some .byte) rm_J0_coder_7d493_s1 g [.ref (g.2.2.2 6)] (ws) (ws) (some (.int r)) 0 0 := by
  have hr0 : r = 0 := Option.some.inj (h.symm.trans (by decide : f_J0_coder_7d493_s1 = some 0))
  have hr1 : narrow .byte (.int r) = .int r := by rw [hr0]; decide
  refine k_open_b (own := "java/lang/String") hr1 (by decide) rfl (Nat.le_of_ble_eq_true rfl) (fun X C hR => ?_)
  refine (?_ : jJ X g (r : Int32) (ws) 0 0 0 [(0, .ref (g.2.2.2 6))] [] (f_J0_coder_7d493_s1)) h
  unfold f_J0_coder_7d493_s1
  refine r_gs_cs (pc := 0) C kw_2_167 dJ0_coder_7d493_0 ?_
  refine r_if_eq 13 (pc := 3) C dJ0_coder_7d493_3 (by decide) ?_ ?_
  · refine r_iconst (pc := 13) C dJ0_coder_7d493_13 (v := 1) (by decide) ?_
    exact r_retPI hR (pc := 14) dJ0_coder_7d493_14
  · refine r_aload_n (pc := 6) C dJ0_coder_7d493_6 0 rfl ?_
    refine r_sc_1 (pc := 7) C kw_8_95 dJ0_coder_7d493_7 ?_
    refine r_goto 14 (pc := 10) C dJ0_coder_7d493_10 (by decide) ?_
    exact r_retPI hR (pc := 14) dJ0_coder_7d493_14
abbrev rm_J0_length_8abf5_s1 : Room := { frames := 1, cells := 0, slots := 0, locals := 20 }
def f_J0_length_8abf5_s1 : Option (Int32) :=
  bp f_J0_coder_7d493_s1 (fun x1 =>
  some (13 >>> (x1 &&& 31)))
set_option maxRecDepth 100000 in
set_option maxHeartbeats 4000000 in
theorem c_J0_length_8abf5_s1 {g : KG} {ws : va_W}  {r : Int32} (h : f_J0_length_8abf5_s1 = some r) : ∀ l, kM l yJ0_length_8abf5 cJ0_length_8abf5 1 (some .int) rm_J0_length_8abf5_s1 g [.ref (g.2.2.2 6)] (ws) (ws) (some (.int r)) 0 0 := by
  refine k_open_i (own := "java/lang/String") (by decide) rfl (Nat.le_of_ble_eq_true rfl) (fun X C hR => ?_)
  refine (?_ : jJ X g (r : Int32) (ws) 0 0 0 [(0, .ref (g.2.2.2 6))] [] (f_J0_length_8abf5_s1)) h
  unfold f_J0_length_8abf5_s1
  refine r_aload_n (pc := 0) C dJ0_length_8abf5_0 0 rfl ?_
  refine r_sv_1 (pc := 1) C kw_8_96 dJ0_length_8abf5_1 ?_
  refine r_sbn_1 (pc := 4) C dJ0_length_8abf5_4 ?_
  refine r_aload_n (pc := 5) C dJ0_length_8abf5_5 0 rfl ?_
  refine r_cT1pi (As := []) (st := [.int 13]) (pc := 6) C (fun _ h => c_J0_coder_7d493_s1 h) kY_J0_coder_7d493 kw_2_174 kw_2_175 rfl kw_2_173 rfl ⟨Nat.le_of_ble_eq_true rfl, Nat.le_of_ble_eq_true rfl⟩ rfl rfl ⟨Nat.zero_le _, Nat.zero_le _⟩ rfl (Nat.le_of_ble_eq_true rfl) dJ0_length_8abf5_6 (fun x1 => ?_)
  refine r_ishr (pc := 9) C dJ0_length_8abf5_9 ?_
  exact r_retPI hR (pc := 10) dJ0_length_8abf5_10
abbrev rm_J1_indexOfChar_4cfef_sb1 : Room := { frames := 0, cells := 0, slots := 0, locals := 0 }
def L_J1_indexOfChar_4cfef_sb1_7 (c3 : Int32) (c4 : Int32) (k5 : Option (Int32)) : Nat → Int32 → Option (Int32) := lo1 fun rec3 x2 =>
  (if c3 ≤ x2 then
  k5
 else
  chk x2 13 (
  (if (sB_1.getD x2.toNatClampNeg 0) = c4 then
  some x2
 else
  lt (x2 + 1) fun x7 =>
  rec3 x7)))
set_option maxRecDepth 100000 in
set_option maxHeartbeats 4000000 in
theorem l_J1_indexOfChar_4cfef_sb1_7 {X : KX} {g : KG} {res : Int32} {ws : va_W} (C : kC X g cJ1_indexOfChar_4cfef "java/lang/StringLatin1" rm_J1_indexOfChar_4cfef_sb1 6) (hR : ∀ (pc : Nat) (lv : List (Nat × Value)), decode cJ1_indexOfChar_4cfef pc = .ok (.ireturn, 1) → jW X g (ws) 0 0 pc lv [.int res]) (c3 : Int32) (c4 : Int32) (k5 : Option (Int32)) (hk6 : jJ X g res (ws) 0 0 31 [] [] k5) : ∀ (n : Nat) (x2 : Int32), jJ X g res (ws) 0 0 7 [(0, .ref (g.2.2.2 9)), (3, .int c3), (4, .int c4), (5, .int x2)] [] (L_J1_indexOfChar_4cfef_sb1_7 c3 c4 k5 n x2) := by
  refine r_lo1 (fun x2 => ws) (fun x2 => [(0, .ref (g.2.2.2 9)), (3, .int c3), (4, .int c4), (5, .int x2)]) (fun rec3 ih4 x2 => ?_)
  refine r_iload (pc := 7) C dJ1_indexOfChar_4cfef_7 3 rfl ?_
  refine r_iload_n (pc := 9) C dJ1_indexOfChar_4cfef_9 1 rfl ?_
  refine r_icmp_ge 31 (pc := 10) C dJ1_indexOfChar_4cfef_10 (by decide) ?_ ?_
  · refine r_sub (lv' := []) [] rfl ?_
    exact hk6
  · refine r_aload_n (pc := 13) C dJ1_indexOfChar_4cfef_13 0 rfl ?_
    refine r_iload (pc := 14) C dJ1_indexOfChar_4cfef_14 3 rfl ?_
    refine r_sbl_1 (pc := 16) C dJ1_indexOfChar_4cfef_16 ?_
    refine r_iload (pc := 17) C dJ1_indexOfChar_4cfef_17 2 rfl ?_
    refine r_icmp_ne 25 (pc := 19) C dJ1_indexOfChar_4cfef_19 (by decide) ?_ ?_
    · refine r_iinc (pc := 25) C dJ1_indexOfChar_4cfef_25 (v := 1) (lv' := fun x7 => [(0, .ref (g.2.2.2 9)), (3, .int c3), (4, .int c4), (5, .int x7)]) 3 rfl (by decide) (by decide) [1, 2, 3, 0] (fun _ => rfl) (fun x7 => ?_)
      refine r_goto 7 (pc := 28) C dJ1_indexOfChar_4cfef_28 (by decide) ?_
      exact ih4 x7
    · refine r_iload (pc := 22) C dJ1_indexOfChar_4cfef_22 3 rfl ?_
      exact r_retPI hR (pc := 24) dJ1_indexOfChar_4cfef_24
def f_J1_indexOfChar_4cfef_sb1 (a1 : Int32) (a2 : Int32) (a3 : Int32) : Option (Int32) :=
  lt a1.toInt8.toInt32 fun x1 =>
  L_J1_indexOfChar_4cfef_sb1_7 a3 x1 (some (-1)) FU a2
set_option maxRecDepth 100000 in
set_option maxHeartbeats 4000000 in
theorem c_J1_indexOfChar_4cfef_sb1 {g : KG} {ws : va_W} {a1 : Int32} {a2 : Int32} {a3 : Int32} {r : Int32} (h : f_J1_indexOfChar_4cfef_sb1 a1 a2 a3 = some r) : ∀ l, kM l yJ1_indexOfChar_4cfef cJ1_indexOfChar_4cfef 6 (some .int) rm_J1_indexOfChar_4cfef_sb1 g [.ref (g.2.2.2 9), .int a1, .int a2, .int a3] (ws) (ws) (some (.int r)) 0 0 := by
  refine k_open_i (own := "java/lang/StringLatin1") (by decide) rfl (Nat.le_of_ble_eq_true rfl) (fun X C hR => ?_)
  refine (?_ : jJ X g (r : Int32) (ws) 0 0 0 [(0, .ref (g.2.2.2 9)), (1, .int a1), (2, .int a2), (3, .int a3)] [] (f_J1_indexOfChar_4cfef_sb1 a1 a2 a3)) h
  unfold f_J1_indexOfChar_4cfef_sb1
  refine r_iload_n (pc := 0) C dJ1_indexOfChar_4cfef_0 1 rfl ?_
  refine r_i2b (pc := 1) C dJ1_indexOfChar_4cfef_1 ?_
  refine r_istoreV (pc := 2) C dJ1_indexOfChar_4cfef_2 (lv' := fun x1 => [(0, .ref (g.2.2.2 9)), (1, .int a1), (2, .int a2), (3, .int a3), (4, .int x1)]) (by decide) [1, 2, 3, 4, 0] (fun _ => rfl) (fun x1 => ?_)
  refine r_iload_n (pc := 4) C dJ1_indexOfChar_4cfef_4 2 rfl ?_
  refine r_istore (pc := 5) C dJ1_indexOfChar_4cfef_5 (lv' := [(0, .ref (g.2.2.2 9)), (1, .int a1), (2, .int a2), (3, .int a3), (4, .int x1), (5, .int a2)]) (by decide) [1, 2, 3, 4, 5, 0] rfl ?_
  refine r_sub (lv' := [(0, .ref (g.2.2.2 9)), (3, .int a3), (4, .int x1), (5, .int a2)]) [0, 3, 4, 5] rfl ?_
  refine l_J1_indexOfChar_4cfef_sb1_7 C hR a3 x1 _ (?_) FU a2
  refine r_iconst (pc := 31) C dJ1_indexOfChar_4cfef_31 (v := (-1)) (by decide) ?_
  exact r_retPI hR (pc := 32) dJ1_indexOfChar_4cfef_32
abbrev rm_J1_indexOf_4cfef_sb1 : Room := { frames := 1, cells := 0, slots := 0, locals := 25 }
def f_J1_indexOf_4cfef_sb1 (a1 : Int32) (a2 : Int32) (a3 : Int32) : Option (Int32) :=
  bp (f_J1_canEncode_9a6ad a1) (fun x1 =>
  (if x1 = true then
  lt (if a2 < 0 then 0 else a2) fun x2 =>
  lt (if 13 < a3 then 13 else a3) fun x3 =>
  (if x2 < x3 then
  bp (f_J1_indexOfChar_4cfef_sb1 a1 x2 x3) (fun x4 =>
  some x4)
 else
  some (-1))
 else
  some (-1)))
set_option maxRecDepth 100000 in
set_option maxHeartbeats 4000000 in
theorem c_J1_indexOf_4cfef_sb1 {g : KG} {ws : va_W} {a1 : Int32} {a2 : Int32} {a3 : Int32} {r : Int32} (h : f_J1_indexOf_4cfef_sb1 a1 a2 a3 = some r) : ∀ l, kM l yJ1_indexOf_4cfef cJ1_indexOf_4cfef 4 (some .int) rm_J1_indexOf_4cfef_sb1 g [.ref (g.2.2.2 9), .int a1, .int a2, .int a3] (ws) (ws) (some (.int r)) 0 0 := by
  refine k_open_i (own := "java/lang/StringLatin1") (by decide) rfl (Nat.le_of_ble_eq_true rfl) (fun X C hR => ?_)
  refine (?_ : jJ X g (r : Int32) (ws) 0 0 0 [(0, .ref (g.2.2.2 9)), (1, .int a1), (2, .int a2), (3, .int a3)] [] (f_J1_indexOf_4cfef_sb1 a1 a2 a3)) h
  unfold f_J1_indexOf_4cfef_sb1
  refine r_iload_n (pc := 0) C dJ1_indexOf_4cfef_0 1 rfl ?_
  refine r_cSpz (As := [.int a1]) (st := []) (pc := 1) C (fun _ h => c_J1_canEncode_9a6ad h) kY_J1_canEncode_9a6ad kw_2_181 kw_2_180 rfl ⟨Nat.le_of_ble_eq_true rfl, Nat.le_of_ble_eq_true rfl⟩ rfl rfl ⟨Nat.zero_le _, Nat.zero_le _⟩ rfl (Nat.le_of_ble_eq_true rfl) dJ1_indexOf_4cfef_1 (fun x1 => ?_)
  refine r_ifb_ne 9 (pc := 4) C dJ1_indexOf_4cfef_4 (by decide) ?_ ?_
  · refine r_iload_n (pc := 9) C dJ1_indexOf_4cfef_9 2 rfl ?_
    refine r_iconst (pc := 10) C dJ1_indexOf_4cfef_10 (v := 0) (by decide) ?_
    refine r_mmax (st := []) (pc := 11) C kw_2_183 (Nat.le_of_ble_eq_true rfl) (Nat.le_of_ble_eq_true rfl) ⟨Nat.zero_le _, Nat.zero_le _⟩ dJ1_indexOf_4cfef_11 ?_
    refine r_istoreV_n (pc := 14) C dJ1_indexOf_4cfef_14 (lv' := fun x2 => [(0, .ref (g.2.2.2 9)), (1, .int a1), (2, .int x2), (3, .int a3)]) (by decide) [1, 2, 0, 3] (fun _ => rfl) (fun x2 => ?_)
    refine r_iload_n (pc := 15) C dJ1_indexOf_4cfef_15 3 rfl ?_
    refine r_aload_n (pc := 16) C dJ1_indexOf_4cfef_16 0 rfl ?_
    refine r_sbn_1 (pc := 17) C dJ1_indexOf_4cfef_17 ?_
    refine r_mmin (st := []) (pc := 18) C kw_2_184 (Nat.le_of_ble_eq_true rfl) (Nat.le_of_ble_eq_true rfl) ⟨Nat.zero_le _, Nat.zero_le _⟩ dJ1_indexOf_4cfef_18 ?_
    refine r_istoreV_n (pc := 21) C dJ1_indexOf_4cfef_21 (lv' := fun x3 => [(0, .ref (g.2.2.2 9)), (1, .int a1), (2, .int x2), (3, .int x3)]) (by decide) [1, 2, 3, 0] (fun _ => rfl) (fun x3 => ?_)
    refine r_iload_n (pc := 22) C dJ1_indexOf_4cfef_22 2 rfl ?_
    refine r_iload_n (pc := 23) C dJ1_indexOf_4cfef_23 3 rfl ?_
    refine r_icmp_lt 29 (pc := 24) C dJ1_indexOf_4cfef_24 (by decide) ?_ ?_
    · refine r_aload_n (pc := 29) C dJ1_indexOf_4cfef_29 0 rfl ?_
      refine r_iload_n (pc := 30) C dJ1_indexOf_4cfef_30 1 rfl ?_
      refine r_iload_n (pc := 31) C dJ1_indexOf_4cfef_31 2 rfl ?_
      refine r_iload_n (pc := 32) C dJ1_indexOf_4cfef_32 3 rfl ?_
      refine r_cSpi (As := [.ref (g.2.2.2 9), .int a1, .int x2, .int x3]) (st := []) (pc := 33) C (fun _ h => c_J1_indexOfChar_4cfef_sb1 h) kY_J1_indexOfChar_4cfef kw_2_188 kw_2_187 rfl ⟨Nat.le_of_ble_eq_true rfl, Nat.le_of_ble_eq_true rfl⟩ rfl rfl ⟨Nat.zero_le _, Nat.zero_le _⟩ rfl (Nat.le_of_ble_eq_true rfl) dJ1_indexOf_4cfef_33 (fun x4 => ?_)
      exact r_retPI hR (pc := 36) dJ1_indexOf_4cfef_36
    · refine r_iconst (pc := 27) C dJ1_indexOf_4cfef_27 (v := (-1)) (by decide) ?_
      exact r_retPI hR (pc := 28) dJ1_indexOf_4cfef_28
  · refine r_iconst (pc := 7) C dJ1_indexOf_4cfef_7 (v := (-1)) (by decide) ?_
    exact r_retPI hR (pc := 8) dJ1_indexOf_4cfef_8
abbrev rm_J0_indexOf_7cf53_s1 : Room := { frames := 2, cells := 0, slots := 0, locals := 48 }
def f_J0_indexOf_7cf53_s1 (a1 : Int32) (a2 : Int32) : Option (Int32) :=
  bp f_J0_isLatin1_aae02_s1 (fun x1 =>
  (if x1 = true then
  bp f_J0_length_8abf5_s1 (fun x2 =>
  bp (f_J1_indexOf_4cfef_sb1 a1 a2 x2) (fun x3 =>
  some x3))
 else
  none))
set_option maxRecDepth 100000 in
set_option maxHeartbeats 4000000 in
theorem c_J0_indexOf_7cf53_s1 {g : KG} {ws : va_W} {a1 : Int32} {a2 : Int32} {r : Int32} (h : f_J0_indexOf_7cf53_s1 a1 a2 = some r) : ∀ l, kM l yJ0_indexOf_7cf53 cJ0_indexOf_7cf53 3 (some .int) rm_J0_indexOf_7cf53_s1 g [.ref (g.2.2.2 6), .int a1, .int a2] (ws) (ws) (some (.int r)) 0 0 := by
  refine k_open_i (own := "java/lang/String") (by decide) rfl (Nat.le_of_ble_eq_true rfl) (fun X C hR => ?_)
  refine (?_ : jJ X g (r : Int32) (ws) 0 0 0 [(0, .ref (g.2.2.2 6)), (1, .int a1), (2, .int a2)] [] (f_J0_indexOf_7cf53_s1 a1 a2)) h
  unfold f_J0_indexOf_7cf53_s1
  refine r_aload_n (pc := 0) C dJ0_indexOf_7cf53_0 0 rfl ?_
  refine r_cT1pz (As := []) (st := []) (pc := 1) C (fun _ h => c_J0_isLatin1_aae02_s1 h) kY_J0_isLatin1_aae02 kw_2_164 kw_2_165 rfl kw_2_163 rfl ⟨Nat.le_of_ble_eq_true rfl, Nat.le_of_ble_eq_true rfl⟩ rfl rfl ⟨Nat.zero_le _, Nat.zero_le _⟩ rfl (Nat.le_of_ble_eq_true rfl) dJ0_indexOf_7cf53_1 (fun x1 => ?_)
  refine r_ifb_eq 23 (pc := 4) C dJ0_indexOf_7cf53_4 (by decide) ?_ ?_
  · exact fun hF => by cases hF
  · refine r_aload_n (pc := 7) C dJ0_indexOf_7cf53_7 0 rfl ?_
    refine r_sv_1 (pc := 8) C kw_8_96 dJ0_indexOf_7cf53_8 ?_
    refine r_iload_n (pc := 11) C dJ0_indexOf_7cf53_11 1 rfl ?_
    refine r_iload_n (pc := 12) C dJ0_indexOf_7cf53_12 2 rfl ?_
    refine r_aload_n (pc := 13) C dJ0_indexOf_7cf53_13 0 rfl ?_
    refine r_cT1pi (As := []) (st := [.int a2, .int a1, .ref (g.2.2.2 9)]) (pc := 14) C (fun _ h => c_J0_length_8abf5_s1 h) kY_J0_length_8abf5 kw_2_170 kw_2_171 rfl kw_2_169 rfl ⟨Nat.le_of_ble_eq_true rfl, Nat.le_of_ble_eq_true rfl⟩ rfl rfl ⟨Nat.zero_le _, Nat.zero_le _⟩ rfl (Nat.le_of_ble_eq_true rfl) dJ0_indexOf_7cf53_14 (fun x2 => ?_)
    refine r_cSpi (As := [.ref (g.2.2.2 9), .int a1, .int a2, .int x2]) (st := []) (pc := 17) C (fun _ h => c_J1_indexOf_4cfef_sb1 h) kY_J1_indexOf_4cfef kw_2_178 kw_2_177 rfl ⟨Nat.le_of_ble_eq_true rfl, Nat.le_of_ble_eq_true rfl⟩ rfl rfl ⟨Nat.zero_le _, Nat.zero_le _⟩ rfl (Nat.le_of_ble_eq_true rfl) dJ0_indexOf_7cf53_17 (fun x3 => ?_)
    refine r_goto 36 (pc := 20) C dJ0_indexOf_7cf53_20 (by decide) ?_
    exact r_retPI hR (pc := 36) dJ0_indexOf_7cf53_36
abbrev rm_J0_indexOf_0f7a4_s1 : Room := { frames := 3, cells := 0, slots := 0, locals := 70 }
def f_J0_indexOf_0f7a4_s1 (a1 : Int32) : Option (Int32) :=
  bp (f_J0_indexOf_7cf53_s1 a1 0) (fun x1 =>
  some x1)
set_option maxRecDepth 100000 in
set_option maxHeartbeats 4000000 in
theorem c_J0_indexOf_0f7a4_s1 {g : KG} {ws : va_W} {a1 : Int32} {r : Int32} (h : f_J0_indexOf_0f7a4_s1 a1 = some r) : ∀ l, kM l yJ0_indexOf_0f7a4 cJ0_indexOf_0f7a4 2 (some .int) rm_J0_indexOf_0f7a4_s1 g [.ref (g.2.2.2 6), .int a1] (ws) (ws) (some (.int r)) 0 0 := by
  refine k_open_i (own := "java/lang/String") (by decide) rfl (Nat.le_of_ble_eq_true rfl) (fun X C hR => ?_)
  refine (?_ : jJ X g (r : Int32) (ws) 0 0 0 [(0, .ref (g.2.2.2 6)), (1, .int a1)] [] (f_J0_indexOf_0f7a4_s1 a1)) h
  unfold f_J0_indexOf_0f7a4_s1
  refine r_aload_n (pc := 0) C dJ0_indexOf_0f7a4_0 0 rfl ?_
  refine r_iload_n (pc := 1) C dJ0_indexOf_0f7a4_1 1 rfl ?_
  refine r_iconst (pc := 2) C dJ0_indexOf_0f7a4_2 (v := 0) (by decide) ?_
  refine r_cT1pi (As := [.int a1, .int 0]) (st := []) (pc := 3) C (fun _ h => c_J0_indexOf_7cf53_s1 h) kY_J0_indexOf_7cf53 kw_2_160 kw_2_161 rfl kw_2_159 rfl ⟨Nat.le_of_ble_eq_true rfl, Nat.le_of_ble_eq_true rfl⟩ rfl rfl ⟨Nat.zero_le _, Nat.zero_le _⟩ rfl (Nat.le_of_ble_eq_true rfl) dJ0_indexOf_0f7a4_3 (fun x1 => ?_)
  exact r_retPI hR (pc := 6) dJ0_indexOf_0f7a4_6
abbrev rm_X5_readThing : Room := { frames := 4, cells := 0, slots := 0, locals := 91 }
theorem kY_X5_readThing : kY yX5_readThing cX5_readThing 2 (some .boolean) 0 := ⟨kw_1_7, kw_3_150, by decide, by decide, by decide +kernel⟩
def f_X5_readThing (S : CS) : Option (Bool × CS) :=
  (if (S.1 13) = 60 then
  some (false, S)
 else
  bp (f_X10_peek S) (fun x1 =>
  bp (f_X10_isDigitHere S) (fun x2 =>
  jn1 (fun (S3 : CS) =>
  lt (ci S3 13 ((S3.1 13) + 1)) fun S4 =>
  lt (ci S4 15 2) fun S5 =>
  some (true, S5)) (fun k6 =>
  (if x2 = true then
  bw (f_X10_readDigits S) (fun x11 S12 =>
  (if x11 = true then
  bp (f_X5_emit S12 (S12.1 3)) (fun S13 =>
  k6 S13)
 else
  some (false, S12)))
 else
  (if x1 ≤ 0 then
  some (false, S)
 else
  bp (f_J0_indexOf_0f7a4_s1 ((x1.toUInt32 % 65536).toInt32)) (fun x8 =>
  (if x8 < 0 then
  some (false, S)
 else
  bp (f_X5_emit S (-x1)) (fun S9 =>
  bp (f_X10_step S9) (fun S10 =>
  k6 S10))))))))))
set_option maxRecDepth 100000 in
set_option maxHeartbeats 4000000 in
theorem c_X5_readThing {g : KG} {q : Nat → Nat} {E : va_W} {S : CS}  {r : Bool} {S' : CS} (h : f_X5_readThing S = some (r, S')) : ∀ l, kM l yX5_readThing cX5_readThing 2 (some .boolean) rm_X5_readThing g [.ref (q 26)] (cx g q E S) (cx g q E S') (some (.int (b2 r))) 0 0 := by
  refine k_open_z (own := "MarkChains$FormulaReader") (by decide) rfl (Nat.le_of_ble_eq_true rfl) (fun X C hR => ?_)
  refine (?_ : jJ X g ((r, S') : Bool × CS) (cx g q E S) 0 0 0 [(0, .ref (q 26))] [] (f_X5_readThing S)) h
  unfold f_X5_readThing
  refine r_aload_n (pc := 0) C dX5_readThing_0 0 rfl ?_
  refine xg_fr_things (pc := 1) C kw_1_187 dX5_readThing_1 ?_
  refine r_bipush (pc := 4) C dX5_readThing_4 (v := 60) (by decide) ?_
  refine r_icmp_ne 11 (pc := 6) C dX5_readThing_6 (by decide) ?_ ?_
  · refine r_aload_n (pc := 11) C dX5_readThing_11 0 rfl ?_
    refine xg_fr_tape (pc := 12) C kw_1_180 dX5_readThing_12 ?_
    refine r_cVpi (As := []) (st := []) (pc := 15) C (fun _ h => c_X10_peek h) kY_X10_peek kw_2_152 kw_2_153 kw_3_142 rfl ⟨Nat.le_of_ble_eq_true rfl, Nat.le_of_ble_eq_true rfl⟩ rfl rfl ⟨Nat.zero_le _, Nat.zero_le _⟩ 1 rfl rfl rfl (Nat.le_of_ble_eq_true rfl) dX5_readThing_15 (fun x1 => ?_)
    refine r_istore_n (pc := 18) C dX5_readThing_18 (lv' := [(0, .ref (q 26)), (1, .int x1)]) (by decide) [1, 0] rfl ?_
    refine r_aload_n (pc := 19) C dX5_readThing_19 0 rfl ?_
    refine xg_fr_tape (pc := 20) C kw_1_180 dX5_readThing_20 ?_
    refine r_cVpz (As := []) (st := []) (pc := 23) C (fun _ h => c_X10_isDigitHere h) kY_X10_isDigitHere kw_3_29 kw_3_30 kw_3_151 rfl ⟨Nat.le_of_ble_eq_true rfl, Nat.le_of_ble_eq_true rfl⟩ rfl rfl ⟨Nat.zero_le _, Nat.zero_le _⟩ 1 rfl rfl rfl (Nat.le_of_ble_eq_true rfl) dX5_readThing_23 (fun x2 => ?_)
    refine r_jn1 87 (fun (S3 : CS) => cx g q E S3) (fun (S3 : CS) => [(0, .ref (q 26))]) (fun (S3 : CS) => []) (fun S3 => ?_) (fun k6 hk7 => ?_)
    · refine r_aload_n (pc := 87) C dX5_readThing_87 0 rfl ?_
      refine r_dup (pc := 88) C dX5_readThing_88 rfl ?_
      refine xg_fr_things (pc := 89) C kw_1_187 dX5_readThing_89 ?_
      refine r_iconst (pc := 92) C dX5_readThing_92 (v := 1) (by decide) ?_
      refine r_iadd (pc := 93) C dX5_readThing_93 ?_
      refine xp_fr_things (pc := 94) C kw_1_187 dX5_readThing_94 (fun S4 => ?_)
      refine r_aload_n (pc := 97) C dX5_readThing_97 0 rfl ?_
      refine r_iconst (pc := 98) C dX5_readThing_98 (v := 2) (by decide) ?_
      refine xp_fr_state (pc := 99) C kw_1_190 dX5_readThing_99 (fun S5 => ?_)
      refine r_iconst (pc := 102) C dX5_readThing_102 (v := 1) (by decide) ?_
      exact r_retWZ hR rfl (pc := 103) dX5_readThing_103
    · refine r_ifb_eq 55 (pc := 26) C dX5_readThing_26 (by decide) ?_ ?_
      · refine r_iload_n (pc := 55) C dX5_readThing_55 1 rfl ?_
        refine r_if_le 85 (pc := 56) C dX5_readThing_56 (by decide) ?_ ?_
        · refine r_iconst (pc := 85) C dX5_readThing_85 (v := 0) (by decide) ?_
          exact r_retWZ hR rfl (pc := 86) dX5_readThing_86
        · refine r_str_1 (pc := 59) C dX5_readThing_59 ?_
          refine r_iload_n (pc := 61) C dX5_readThing_61 1 rfl ?_
          refine r_i2c (pc := 62) C dX5_readThing_62 ?_
          refine r_cT1pi (As := [.int ((x1.toUInt32 % 65536).toInt32)]) (st := []) (pc := 63) C (fun _ h => c_J0_indexOf_0f7a4_s1 h) kY_J0_indexOf_0f7a4 kw_2_156 kw_2_157 rfl kw_3_158 rfl ⟨Nat.le_of_ble_eq_true rfl, Nat.le_of_ble_eq_true rfl⟩ rfl rfl ⟨Nat.zero_le _, Nat.zero_le _⟩ rfl (Nat.le_of_ble_eq_true rfl) dX5_readThing_63 (fun x8 => ?_)
          refine r_if_lt 85 (pc := 66) C dX5_readThing_66 (by decide) ?_ ?_
          · refine r_iconst (pc := 85) C dX5_readThing_85 (v := 0) (by decide) ?_
            exact r_retWZ hR rfl (pc := 86) dX5_readThing_86
          · refine r_aload_n (pc := 69) C dX5_readThing_69 0 rfl ?_
            refine r_iload_n (pc := 70) C dX5_readThing_70 1 rfl ?_
            refine r_ineg (pc := 71) C dX5_readThing_71 ?_
            refine r_cVwv (As := [.int (-x1)]) (st := []) (wf := cx g q E) (pc := 72) C (fun _ h => c_X5_emit h) kY_X5_emit kw_3_155 kw_0_9 kw_3_153 rfl ⟨Nat.le_of_ble_eq_true rfl, Nat.le_of_ble_eq_true rfl⟩ rfl rfl ⟨Nat.zero_le _, Nat.zero_le _⟩ 26 rfl rfl rfl (Nat.le_of_ble_eq_true rfl) dX5_readThing_72 (fun S9 => ?_)
            refine r_aload_n (pc := 75) C dX5_readThing_75 0 rfl ?_
            refine xg_fr_tape (pc := 76) C kw_1_180 dX5_readThing_76 ?_
            refine r_cVwv (As := []) (st := []) (wf := cx g q E) (pc := 79) C (fun _ h => c_X10_step h) kY_X10_step kw_3_16 kw_3_17 kw_3_159 rfl ⟨Nat.le_of_ble_eq_true rfl, Nat.le_of_ble_eq_true rfl⟩ rfl rfl ⟨Nat.zero_le _, Nat.zero_le _⟩ 1 rfl rfl rfl (Nat.le_of_ble_eq_true rfl) dX5_readThing_79 (fun S10 => ?_)
            refine r_goto 87 (pc := 82) C dX5_readThing_82 (by decide) ?_
            refine r_sub (lv' := [(0, .ref (q 26))]) [0] rfl ?_
            exact hk7 S10
      · refine r_aload_n (pc := 29) C dX5_readThing_29 0 rfl ?_
        refine xg_fr_tape (pc := 30) C kw_1_180 dX5_readThing_30 ?_
        refine r_cVwz (As := []) (st := []) (wf := cx g q E) (pc := 33) C (fun _ _ h => c_X10_readDigits h) kY_X10_readDigits kw_3_25 kw_3_26 kw_3_152 rfl ⟨Nat.le_of_ble_eq_true rfl, Nat.le_of_ble_eq_true rfl⟩ rfl rfl ⟨Nat.zero_le _, Nat.zero_le _⟩ 1 rfl rfl rfl (Nat.le_of_ble_eq_true rfl) dX5_readThing_33 (fun x11 S12 => ?_)
        refine r_ifb_ne 41 (pc := 36) C dX5_readThing_36 (by decide) ?_ ?_
        · refine r_aload_n (pc := 41) C dX5_readThing_41 0 rfl ?_
          refine r_aload_n (pc := 42) C dX5_readThing_42 0 rfl ?_
          refine xg_fr_tape (pc := 43) C kw_1_180 dX5_readThing_43 ?_
          refine xgN_tp_number (pc := 46) C knf_3 dX5_readThing_46 ?_
          refine r_cVwv (As := [.int (S12.1 3)]) (st := []) (wf := cx g q E) (pc := 49) C (fun _ h => c_X5_emit h) kY_X5_emit kw_3_155 kw_0_9 kw_3_153 rfl ⟨Nat.le_of_ble_eq_true rfl, Nat.le_of_ble_eq_true rfl⟩ rfl rfl ⟨Nat.zero_le _, Nat.zero_le _⟩ 26 rfl rfl rfl (Nat.le_of_ble_eq_true rfl) dX5_readThing_49 (fun S13 => ?_)
          refine r_goto 87 (pc := 52) C dX5_readThing_52 (by decide) ?_
          refine r_sub (lv' := [(0, .ref (q 26))]) [0] rfl ?_
          exact hk7 S13
        · refine r_iconst (pc := 39) C dX5_readThing_39 (v := 0) (by decide) ?_
          exact r_retWZ hR rfl (pc := 40) dX5_readThing_40
  · refine r_iconst (pc := 9) C dX5_readThing_9 (v := 0) (by decide) ?_
    exact r_retWZ hR rfl (pc := 10) dX5_readThing_10
set_option maxRecDepth 100000 in
theorem w_X5_readThing {S : CS}  {r : Bool} {S' : CS} (h : f_X5_readThing S = some (r, S')) : gI [2, 3, 5, 10, 13, 15] [27] S S' := by
  have hS : gI [2, 3, 5, 10, 13, 15] [27] S S := gI_rf
  refine (?_ : jf (gI [2, 3, 5, 10, 13, 15] [27] S) Prod.snd (f_X5_readThing S)) _ h
  unfold f_X5_readThing
  refine f_ite ?_ ?_
  · exact f_some hS
  · refine f_bp (fun x1 => ?_)
    refine f_bp (fun x2 => ?_)
    refine f_jn1 (fun S3 hS3 => ?_) (fun k6 hk7 => ?_)
    · refine f_ltS (gI_ci hS3 (by decide)) (fun S4 hS4 => ?_)
      refine f_ltS (gI_ci hS4 (by decide)) (fun S5 hS5 => ?_)
      exact f_some hS5
    · refine f_ite ?_ ?_
      · refine f_bwS (fun _ _ h => gI_tr hS (w_X10_readDigits h) (by decide) (by decide)) (fun x11 S12 hS12 => ?_)
        refine f_ite ?_ ?_
        · refine f_bpS (fun _ h => gI_tr hS12 (w_X5_emit h) (by decide) (by decide)) (fun S13 hS13 => ?_)
          exact hk7 S13 hS13
        · exact f_some hS12
      · refine f_ite ?_ ?_
        · exact f_some hS
        · refine f_bp (fun x8 => ?_)
          refine f_ite ?_ ?_
          · exact f_some hS
          · refine f_bpS (fun _ h => gI_tr hS (w_X5_emit h) (by decide) (by decide)) (fun S9 hS9 => ?_)
            refine f_bpS (fun _ h => gI_tr hS9 (w_X10_step h) (by decide) (by decide)) (fun S10 hS10 => ?_)
            exact hk7 S10 hS10
abbrev rm_X5_readAtTest : Room := { frames := 5, cells := 0, slots := 0, locals := 112 }
theorem kY_X5_readAtTest : kY yX5_readAtTest cX5_readAtTest 2 (some .boolean) 1 := ⟨kw_1_7, kw_3_146, by decide, by decide, by decide +kernel⟩
def f_X5_readAtTest (S : CS) (a1 : Int32) : Option (Bool × CS) :=
  jn0 ((if (S.1 14) = 6 then
  some (false, S)
 else
  lt (ci S 14 ((S.1 14) + 1)) fun S1 =>
  bw (f_X5_await S1 a1 0) (fun x2 S3 =>
  some (x2, S3)))) (fun k4 =>
  (if a1 = 40 then
  k4
 else
  (if a1 = 33 then
  k4
 else
  lt (ci S 16 0) fun S6 =>
  bw (f_X5_readThing S6) (fun x7 S8 =>
  some (x7, S8)))))
set_option maxRecDepth 100000 in
set_option maxHeartbeats 4000000 in
theorem c_X5_readAtTest {g : KG} {q : Nat → Nat} {E : va_W} {S : CS} {a1 : Int32} {r : Bool} {S' : CS} (h : f_X5_readAtTest S a1 = some (r, S')) : ∀ l, kM l yX5_readAtTest cX5_readAtTest 2 (some .boolean) rm_X5_readAtTest g [.ref (q 26), .int a1] (cx g q E S) (cx g q E S') (some (.int (b2 r))) 0 0 := by
  refine k_open_z (own := "MarkChains$FormulaReader") (by decide) rfl (Nat.le_of_ble_eq_true rfl) (fun X C hR => ?_)
  refine (?_ : jJ X g ((r, S') : Bool × CS) (cx g q E S) 0 0 0 [(0, .ref (q 26)), (1, .int a1)] [] (f_X5_readAtTest S a1)) h
  unfold f_X5_readAtTest
  refine r_iload_n (pc := 0) C dX5_readAtTest_0 1 rfl ?_
  refine r_bipush (pc := 1) C dX5_readAtTest_1 (v := 40) (by decide) ?_
  refine r_jn0 22 (cx g q E S) ([(0, .ref (q 26)), (1, .int a1)]) ([]) ?_ (fun k4 hk5 => ?_)
  · refine r_aload_n (pc := 22) C dX5_readAtTest_22 0 rfl ?_
    refine xg_fr_nested (pc := 23) C kw_1_189 dX5_readAtTest_23 ?_
    refine r_bipush (pc := 26) C dX5_readAtTest_26 (v := 6) (by decide) ?_
    refine r_icmp_ne 33 (pc := 28) C dX5_readAtTest_28 (by decide) ?_ ?_
    · refine r_aload_n (pc := 33) C dX5_readAtTest_33 0 rfl ?_
      refine r_dup (pc := 34) C dX5_readAtTest_34 rfl ?_
      refine xg_fr_nested (pc := 35) C kw_1_189 dX5_readAtTest_35 ?_
      refine r_iconst (pc := 38) C dX5_readAtTest_38 (v := 1) (by decide) ?_
      refine r_iadd (pc := 39) C dX5_readAtTest_39 ?_
      refine xp_fr_nested (pc := 40) C kw_1_189 dX5_readAtTest_40 (fun S1 => ?_)
      refine r_aload_n (pc := 43) C dX5_readAtTest_43 0 rfl ?_
      refine r_iload_n (pc := 44) C dX5_readAtTest_44 1 rfl ?_
      refine r_iconst (pc := 45) C dX5_readAtTest_45 (v := 0) (by decide) ?_
      refine r_cVwz (As := [.int a1, .int 0]) (st := []) (wf := cx g q E) (pc := 46) C (fun _ _ h => c_X5_await h) kY_X5_await kw_3_162 kw_0_10 kw_3_160 rfl ⟨Nat.le_of_ble_eq_true rfl, Nat.le_of_ble_eq_true rfl⟩ rfl rfl ⟨Nat.zero_le _, Nat.zero_le _⟩ 26 rfl rfl rfl (Nat.le_of_ble_eq_true rfl) dX5_readAtTest_46 (fun x2 S3 => ?_)
      exact r_retWZ hR rfl (pc := 49) dX5_readAtTest_49
    · refine r_iconst (pc := 31) C dX5_readAtTest_31 (v := 0) (by decide) ?_
      exact r_retWZ hR rfl (pc := 32) dX5_readAtTest_32
  · refine r_icmp_eq 22 (pc := 3) C dX5_readAtTest_3 (by decide) ?_ ?_
    · exact hk5
    · refine r_iload_n (pc := 6) C dX5_readAtTest_6 1 rfl ?_
      refine r_bipush (pc := 7) C dX5_readAtTest_7 (v := 33) (by decide) ?_
      refine r_icmp_eq 22 (pc := 9) C dX5_readAtTest_9 (by decide) ?_ ?_
      · exact hk5
      · refine r_aload_n (pc := 12) C dX5_readAtTest_12 0 rfl ?_
        refine r_iconst (pc := 13) C dX5_readAtTest_13 (v := 0) (by decide) ?_
        refine xp_fr_isCompared (pc := 14) C kw_1_191 (by decide) (by decide) dX5_readAtTest_14 (fun S6 => ?_)
        refine r_aload_n (pc := 17) C dX5_readAtTest_17 0 rfl ?_
        refine r_cVwz (As := []) (st := []) (wf := cx g q E) (pc := 18) C (fun _ _ h => c_X5_readThing h) kY_X5_readThing kw_3_149 kw_0_8 kw_3_147 rfl ⟨Nat.le_of_ble_eq_true rfl, Nat.le_of_ble_eq_true rfl⟩ rfl rfl ⟨Nat.zero_le _, Nat.zero_le _⟩ 26 rfl rfl rfl (Nat.le_of_ble_eq_true rfl) dX5_readAtTest_18 (fun x7 S8 => ?_)
        exact r_retWZ hR rfl (pc := 21) dX5_readAtTest_21
set_option maxRecDepth 100000 in
theorem w_X5_readAtTest {S : CS} {a1 : Int32} {r : Bool} {S' : CS} (h : f_X5_readAtTest S a1 = some (r, S')) : gI [2, 3, 5, 10, 11, 13, 14, 15, 16] [27, 28] S S' := by
  have hS : gI [2, 3, 5, 10, 11, 13, 14, 15, 16] [27, 28] S S := gI_rf
  refine (?_ : jf (gI [2, 3, 5, 10, 11, 13, 14, 15, 16] [27, 28] S) Prod.snd (f_X5_readAtTest S a1)) _ h
  unfold f_X5_readAtTest
  refine f_jm0 hS (fun  hS => ?_) (fun k4 hk5 => ?_)
  · refine f_ite ?_ ?_
    · exact f_some hS
    · refine f_ltS (gI_ci hS (by decide)) (fun S1 hS1 => ?_)
      refine f_bwS (fun _ _ h => gI_tr hS1 (w_X5_await h) (by decide) (by decide)) (fun x2 S3 hS3 => ?_)
      exact f_some hS3
  · refine f_ite ?_ ?_
    · exact hk5 hS
    · refine f_ite ?_ ?_
      · exact hk5 hS
      · refine f_ltS (gI_ci hS (by decide)) (fun S6 hS6 => ?_)
        refine f_bwS (fun _ _ h => gI_tr hS6 (w_X5_readThing h) (by decide) (by decide)) (fun x7 S8 hS8 => ?_)
        exact f_some hS8
abbrev rm_X5_readArithmetic : Room := { frames := 2, cells := 0, slots := 0, locals := 42 }
theorem kY_X5_readArithmetic : kY yX5_readArithmetic cX5_readArithmetic 2 (some .boolean) 1 := ⟨kw_1_7, kw_3_167, by decide, by decide, by decide +kernel⟩
def f_X5_readArithmetic (S : CS) (a1 : Int32) : Option (Bool × CS) :=
  jn0 (bp (f_X5_strengthOf a1) (fun x1 =>
  bp (f_X5_release S x1) (fun S2 =>
  bw (f_X5_await S2 a1 1) (fun x3 S4 =>
  some (x3, S4))))) (fun k5 =>
  (if a1 = 43 then
  k5
 else
  (if a1 = 45 then
  k5
 else
  (if a1 = 42 then
  k5
 else
  (if a1 = 47 then
  k5
 else
  some (false, S))))))
set_option maxRecDepth 100000 in
set_option maxHeartbeats 4000000 in
theorem c_X5_readArithmetic {g : KG} {q : Nat → Nat} {E : va_W} {S : CS} {a1 : Int32} {r : Bool} {S' : CS} (h : f_X5_readArithmetic S a1 = some (r, S')) : ∀ l, kM l yX5_readArithmetic cX5_readArithmetic 2 (some .boolean) rm_X5_readArithmetic g [.ref (q 26), .int a1] (cx g q E S) (cx g q E S') (some (.int (b2 r))) 0 0 := by
  refine k_open_z (own := "MarkChains$FormulaReader") (by decide) rfl (Nat.le_of_ble_eq_true rfl) (fun X C hR => ?_)
  refine (?_ : jJ X g ((r, S') : Bool × CS) (cx g q E S) 0 0 0 [(0, .ref (q 26)), (1, .int a1)] [] (f_X5_readArithmetic S a1)) h
  unfold f_X5_readArithmetic
  refine r_iload_n (pc := 0) C dX5_readArithmetic_0 1 rfl ?_
  refine r_bipush (pc := 1) C dX5_readArithmetic_1 (v := 43) (by decide) ?_
  refine r_jn0 26 (cx g q E S) ([(0, .ref (q 26)), (1, .int a1)]) ([]) ?_ (fun k5 hk6 => ?_)
  · refine r_aload_n (pc := 26) C dX5_readArithmetic_26 0 rfl ?_
    refine r_iload_n (pc := 27) C dX5_readArithmetic_27 1 rfl ?_
    refine r_cSpi (As := [.int a1]) (st := [.ref (q 26)]) (pc := 28) C (fun _ h => c_X5_strengthOf h) kY_X5_strengthOf kw_3_169 kw_3_168 rfl ⟨Nat.le_of_ble_eq_true rfl, Nat.le_of_ble_eq_true rfl⟩ rfl rfl ⟨Nat.zero_le _, Nat.zero_le _⟩ rfl (Nat.le_of_ble_eq_true rfl) dX5_readArithmetic_28 (fun x1 => ?_)
    refine r_cVwv (As := [.int x1]) (st := []) (wf := cx g q E) (pc := 31) C (fun _ h => c_X5_release h) kY_X5_release kw_3_173 kw_0_12 kw_3_171 rfl ⟨Nat.le_of_ble_eq_true rfl, Nat.le_of_ble_eq_true rfl⟩ rfl rfl ⟨Nat.zero_le _, Nat.zero_le _⟩ 26 rfl rfl rfl (Nat.le_of_ble_eq_true rfl) dX5_readArithmetic_31 (fun S2 => ?_)
    refine r_aload_n (pc := 34) C dX5_readArithmetic_34 0 rfl ?_
    refine r_iload_n (pc := 35) C dX5_readArithmetic_35 1 rfl ?_
    refine r_iconst (pc := 36) C dX5_readArithmetic_36 (v := 1) (by decide) ?_
    refine r_cVwz (As := [.int a1, .int 1]) (st := []) (wf := cx g q E) (pc := 37) C (fun _ _ h => c_X5_await h) kY_X5_await kw_3_162 kw_0_10 kw_3_160 rfl ⟨Nat.le_of_ble_eq_true rfl, Nat.le_of_ble_eq_true rfl⟩ rfl rfl ⟨Nat.zero_le _, Nat.zero_le _⟩ 26 rfl rfl rfl (Nat.le_of_ble_eq_true rfl) dX5_readArithmetic_37 (fun x3 S4 => ?_)
    exact r_retWZ hR rfl (pc := 40) dX5_readArithmetic_40
  · refine r_icmp_eq 26 (pc := 3) C dX5_readArithmetic_3 (by decide) ?_ ?_
    · exact hk6
    · refine r_iload_n (pc := 6) C dX5_readArithmetic_6 1 rfl ?_
      refine r_bipush (pc := 7) C dX5_readArithmetic_7 (v := 45) (by decide) ?_
      refine r_icmp_eq 26 (pc := 9) C dX5_readArithmetic_9 (by decide) ?_ ?_
      · exact hk6
      · refine r_iload_n (pc := 12) C dX5_readArithmetic_12 1 rfl ?_
        refine r_bipush (pc := 13) C dX5_readArithmetic_13 (v := 42) (by decide) ?_
        refine r_icmp_eq 26 (pc := 15) C dX5_readArithmetic_15 (by decide) ?_ ?_
        · exact hk6
        · refine r_iload_n (pc := 18) C dX5_readArithmetic_18 1 rfl ?_
          refine r_bipush (pc := 19) C dX5_readArithmetic_19 (v := 47) (by decide) ?_
          refine r_icmp_eq 26 (pc := 21) C dX5_readArithmetic_21 (by decide) ?_ ?_
          · exact hk6
          · refine r_iconst (pc := 24) C dX5_readArithmetic_24 (v := 0) (by decide) ?_
            exact r_retWZ hR rfl (pc := 25) dX5_readArithmetic_25
set_option maxRecDepth 100000 in
theorem w_X5_readArithmetic {S : CS} {a1 : Int32} {r : Bool} {S' : CS} (h : f_X5_readArithmetic S a1 = some (r, S')) : gI [2, 10, 11, 14, 15] [27, 28] S S' := by
  have hS : gI [2, 10, 11, 14, 15] [27, 28] S S := gI_rf
  refine (?_ : jf (gI [2, 10, 11, 14, 15] [27, 28] S) Prod.snd (f_X5_readArithmetic S a1)) _ h
  unfold f_X5_readArithmetic
  refine f_jm0 hS (fun  hS => ?_) (fun k5 hk6 => ?_)
  · refine f_bp (fun x1 => ?_)
    refine f_bpS (fun _ h => gI_tr hS (w_X5_release h) (by decide) (by decide)) (fun S2 hS2 => ?_)
    refine f_bwS (fun _ _ h => gI_tr hS2 (w_X5_await h) (by decide) (by decide)) (fun x3 S4 hS4 => ?_)
    exact f_some hS4
  · refine f_ite ?_ ?_
    · exact hk6 hS
    · refine f_ite ?_ ?_
      · exact hk6 hS
      · refine f_ite ?_ ?_
        · exact hk6 hS
        · refine f_ite ?_ ?_
          · exact hk6 hS
          · exact f_some hS
abbrev rm_X5_readComparing : Room := { frames := 2, cells := 0, slots := 0, locals := 42 }
theorem kY_X5_readComparing : kY yX5_readComparing cX5_readComparing 2 (some .boolean) 1 := ⟨kw_1_7, kw_3_178, by decide, by decide, by decide +kernel⟩
def f_X5_readComparing (S : CS) (a1 : Int32) : Option (Bool × CS) :=
  (if (S.1 16) = 0 then
  jn0 (lt (ci S 16 1) fun S1 =>
  bp (f_X5_strengthOf a1) (fun x2 =>
  bp (f_X5_release S1 x2) (fun S3 =>
  bw (f_X5_await S3 a1 1) (fun x4 S5 =>
  some (x4, S5))))) (fun k6 =>
  (if a1 = 60 then
  k6
 else
  (if a1 = 62 then
  k6
 else
  (if a1 = 61 then
  k6
 else
  some (false, S)))))
 else
  some (false, S))
set_option maxRecDepth 100000 in
set_option maxHeartbeats 4000000 in
theorem c_X5_readComparing {g : KG} {q : Nat → Nat} {E : va_W} {S : CS} {a1 : Int32} {r : Bool} {S' : CS} (h : f_X5_readComparing S a1 = some (r, S')) : ∀ l, kM l yX5_readComparing cX5_readComparing 2 (some .boolean) rm_X5_readComparing g [.ref (q 26), .int a1] (cx g q E S) (cx g q E S') (some (.int (b2 r))) 0 0 := by
  refine k_open_z (own := "MarkChains$FormulaReader") (by decide) rfl (Nat.le_of_ble_eq_true rfl) (fun X C hR => ?_)
  refine (?_ : jJ X g ((r, S') : Bool × CS) (cx g q E S) 0 0 0 [(0, .ref (q 26)), (1, .int a1)] [] (f_X5_readComparing S a1)) h
  unfold f_X5_readComparing
  refine r_aload_n (pc := 0) C dX5_readComparing_0 0 rfl ?_
  refine xg_fr_isCompared (pc := 1) C kw_1_191 dX5_readComparing_1 ?_
  refine r_if_ne 25 (pc := 4) C dX5_readComparing_4 (by decide) ?_ ?_
  · refine r_iconst (pc := 25) C dX5_readComparing_25 (v := 0) (by decide) ?_
    exact r_retWZ hR rfl (pc := 26) dX5_readComparing_26
  · refine r_iload_n (pc := 7) C dX5_readComparing_7 1 rfl ?_
    refine r_bipush (pc := 8) C dX5_readComparing_8 (v := 60) (by decide) ?_
    refine r_jn0 27 (cx g q E S) ([(0, .ref (q 26)), (1, .int a1)]) ([]) ?_ (fun k6 hk7 => ?_)
    · refine r_aload_n (pc := 27) C dX5_readComparing_27 0 rfl ?_
      refine r_iconst (pc := 28) C dX5_readComparing_28 (v := 1) (by decide) ?_
      refine xp_fr_isCompared (pc := 29) C kw_1_191 (by decide) (by decide) dX5_readComparing_29 (fun S1 => ?_)
      refine r_aload_n (pc := 32) C dX5_readComparing_32 0 rfl ?_
      refine r_iload_n (pc := 33) C dX5_readComparing_33 1 rfl ?_
      refine r_cSpi (As := [.int a1]) (st := [.ref (q 26)]) (pc := 34) C (fun _ h => c_X5_strengthOf h) kY_X5_strengthOf kw_3_169 kw_3_168 rfl ⟨Nat.le_of_ble_eq_true rfl, Nat.le_of_ble_eq_true rfl⟩ rfl rfl ⟨Nat.zero_le _, Nat.zero_le _⟩ rfl (Nat.le_of_ble_eq_true rfl) dX5_readComparing_34 (fun x2 => ?_)
      refine r_cVwv (As := [.int x2]) (st := []) (wf := cx g q E) (pc := 37) C (fun _ h => c_X5_release h) kY_X5_release kw_3_173 kw_0_12 kw_3_171 rfl ⟨Nat.le_of_ble_eq_true rfl, Nat.le_of_ble_eq_true rfl⟩ rfl rfl ⟨Nat.zero_le _, Nat.zero_le _⟩ 26 rfl rfl rfl (Nat.le_of_ble_eq_true rfl) dX5_readComparing_37 (fun S3 => ?_)
      refine r_aload_n (pc := 40) C dX5_readComparing_40 0 rfl ?_
      refine r_iload_n (pc := 41) C dX5_readComparing_41 1 rfl ?_
      refine r_iconst (pc := 42) C dX5_readComparing_42 (v := 1) (by decide) ?_
      refine r_cVwz (As := [.int a1, .int 1]) (st := []) (wf := cx g q E) (pc := 43) C (fun _ _ h => c_X5_await h) kY_X5_await kw_3_162 kw_0_10 kw_3_160 rfl ⟨Nat.le_of_ble_eq_true rfl, Nat.le_of_ble_eq_true rfl⟩ rfl rfl ⟨Nat.zero_le _, Nat.zero_le _⟩ 26 rfl rfl rfl (Nat.le_of_ble_eq_true rfl) dX5_readComparing_43 (fun x4 S5 => ?_)
      exact r_retWZ hR rfl (pc := 46) dX5_readComparing_46
    · refine r_icmp_eq 27 (pc := 10) C dX5_readComparing_10 (by decide) ?_ ?_
      · exact hk7
      · refine r_iload_n (pc := 13) C dX5_readComparing_13 1 rfl ?_
        refine r_bipush (pc := 14) C dX5_readComparing_14 (v := 62) (by decide) ?_
        refine r_icmp_eq 27 (pc := 16) C dX5_readComparing_16 (by decide) ?_ ?_
        · exact hk7
        · refine r_iload_n (pc := 19) C dX5_readComparing_19 1 rfl ?_
          refine r_bipush (pc := 20) C dX5_readComparing_20 (v := 61) (by decide) ?_
          refine r_icmp_eq 27 (pc := 22) C dX5_readComparing_22 (by decide) ?_ ?_
          · exact hk7
          · refine r_iconst (pc := 25) C dX5_readComparing_25 (v := 0) (by decide) ?_
            exact r_retWZ hR rfl (pc := 26) dX5_readComparing_26
set_option maxRecDepth 100000 in
theorem w_X5_readComparing {S : CS} {a1 : Int32} {r : Bool} {S' : CS} (h : f_X5_readComparing S a1 = some (r, S')) : gI [2, 10, 11, 14, 15, 16] [27, 28] S S' := by
  have hS : gI [2, 10, 11, 14, 15, 16] [27, 28] S S := gI_rf
  refine (?_ : jf (gI [2, 10, 11, 14, 15, 16] [27, 28] S) Prod.snd (f_X5_readComparing S a1)) _ h
  unfold f_X5_readComparing
  refine f_ite ?_ ?_
  · refine f_jm0 hS (fun  hS => ?_) (fun k6 hk7 => ?_)
    · refine f_ltS (gI_ci hS (by decide)) (fun S1 hS1 => ?_)
      refine f_bp (fun x2 => ?_)
      refine f_bpS (fun _ h => gI_tr hS1 (w_X5_release h) (by decide) (by decide)) (fun S3 hS3 => ?_)
      refine f_bwS (fun _ _ h => gI_tr hS3 (w_X5_await h) (by decide) (by decide)) (fun x4 S5 hS5 => ?_)
      exact f_some hS5
    · refine f_ite ?_ ?_
      · exact hk7 hS
      · refine f_ite ?_ ?_
        · exact hk7 hS
        · refine f_ite ?_ ?_
          · exact hk7 hS
          · exact f_some hS
  · exact f_some hS
abbrev rm_X5_readNext : Room := { frames := 6, cells := 0, slots := 0, locals := 133 }
theorem kY_X5_readNext : kY yX5_readNext cX5_readNext 2 (some .boolean) 0 := ⟨kw_1_7, kw_3_141, by decide, by decide, by decide +kernel⟩
def f_X5_readNext (S : CS) : Option (Bool × CS) :=
  bp (f_X10_peek S) (fun x1 =>
  jn0 (bw (f_X5_readBehindTest S x1) (fun x2 S3 =>
  some (x2, S3))) (fun k4 =>
  (if (S.1 15) = 0 then
  bw (f_X5_readAtTest S x1) (fun x6 S7 =>
  some (x6, S7))
 else
  (if (S.1 15) = 1 then
  bw (f_X5_readThing S) (fun x8 S9 =>
  some (x8, S9))
 else
  (if (S.1 15) = 2 then
  bw (f_X5_readArithmetic S x1) (fun x10 S11 =>
  (if x10 = true then
  some (true, S11)
 else
  bw (f_X5_readComparing S11 x1) (fun x12 S13 =>
  (if x12 = true then
  some (true, S13)
 else
  (if (S13.1 16) = 0 then
  some (false, S13)
 else
  bw (f_X5_readBehindTest S13 x1) (fun x14 S15 =>
  (if x14 = true then
  some (true, S15)
 else
  some (false, S15))))))))
 else
  (if (S.1 15) = 4 then
  (if 8 ≤ (S.1 12) then
  some (false, S)
 else
  bw (f_X5_readAtTest S x1) (fun x16 S17 =>
  (if x16 = true then
  some (true, S17)
 else
  some (false, S17))))
 else
  k4))))))
set_option maxRecDepth 100000 in
set_option maxHeartbeats 4000000 in
theorem c_X5_readNext {g : KG} {q : Nat → Nat} {E : va_W} {S : CS}  {r : Bool} {S' : CS} (h : f_X5_readNext S = some (r, S')) : ∀ l, kM l yX5_readNext cX5_readNext 2 (some .boolean) rm_X5_readNext g [.ref (q 26)] (cx g q E S) (cx g q E S') (some (.int (b2 r))) 0 0 := by
  refine k_open_z (own := "MarkChains$FormulaReader") (by decide) rfl (Nat.le_of_ble_eq_true rfl) (fun X C hR => ?_)
  refine (?_ : jJ X g ((r, S') : Bool × CS) (cx g q E S) 0 0 0 [(0, .ref (q 26))] [] (f_X5_readNext S)) h
  unfold f_X5_readNext
  refine r_aload_n (pc := 0) C dX5_readNext_0 0 rfl ?_
  refine xg_fr_tape (pc := 1) C kw_1_180 dX5_readNext_1 ?_
  refine r_cVpi (As := []) (st := []) (pc := 4) C (fun _ h => c_X10_peek h) kY_X10_peek kw_2_152 kw_2_153 kw_3_142 rfl ⟨Nat.le_of_ble_eq_true rfl, Nat.le_of_ble_eq_true rfl⟩ rfl rfl ⟨Nat.zero_le _, Nat.zero_le _⟩ 1 rfl rfl rfl (Nat.le_of_ble_eq_true rfl) dX5_readNext_4 (fun x1 => ?_)
  refine r_istore_n (pc := 7) C dX5_readNext_7 (lv' := [(0, .ref (q 26)), (1, .int x1)]) (by decide) [1, 0] rfl ?_
  refine r_aload_n (pc := 8) C dX5_readNext_8 0 rfl ?_
  refine xg_fr_state (pc := 9) C kw_1_190 dX5_readNext_9 ?_
  refine r_jn0 119 (cx g q E S) ([(0, .ref (q 26)), (1, .int x1)]) ([]) ?_ (fun k4 hk5 => ?_)
  · refine r_aload_n (pc := 119) C dX5_readNext_119 0 rfl ?_
    refine r_iload_n (pc := 120) C dX5_readNext_120 1 rfl ?_
    refine r_cVwz (As := [.int x1]) (st := []) (wf := cx g q E) (pc := 121) C (fun _ _ h => c_X5_readBehindTest h) kY_X5_readBehindTest kw_3_181 kw_0_14 kw_3_179 rfl ⟨Nat.le_of_ble_eq_true rfl, Nat.le_of_ble_eq_true rfl⟩ rfl rfl ⟨Nat.zero_le _, Nat.zero_le _⟩ 26 rfl rfl rfl (Nat.le_of_ble_eq_true rfl) dX5_readNext_121 (fun x2 S3 => ?_)
    exact r_retWZ hR rfl (pc := 124) dX5_readNext_124
  · refine r_case (fun h12_0 => ?_) (fun h12_0 => ?_)
    · refine r_tabIn (off := 59) 71 (pc := 12) C dX5_readNext_12 h12_0 (by decide) (by decide) (by decide) (by decide) ?_
      refine r_aload_n (pc := 71) C dX5_readNext_71 0 rfl ?_
      refine r_iload_n (pc := 72) C dX5_readNext_72 1 rfl ?_
      refine r_cVwz (As := [.int x1]) (st := []) (wf := cx g q E) (pc := 73) C (fun _ _ h => c_X5_readAtTest h) kY_X5_readAtTest kw_3_145 kw_0_7 kw_3_143 rfl ⟨Nat.le_of_ble_eq_true rfl, Nat.le_of_ble_eq_true rfl⟩ rfl rfl ⟨Nat.zero_le _, Nat.zero_le _⟩ 26 rfl rfl rfl (Nat.le_of_ble_eq_true rfl) dX5_readNext_73 (fun x6 S7 => ?_)
      exact r_retWZ hR rfl (pc := 76) dX5_readNext_76
    · refine r_case (fun h12_1 => ?_) (fun h12_1 => ?_)
      · refine r_tabIn (off := 65) 77 (pc := 12) C dX5_readNext_12 h12_1 (by decide) (by decide) (by decide) (by decide) ?_
        refine r_aload_n (pc := 77) C dX5_readNext_77 0 rfl ?_
        refine r_cVwz (As := []) (st := []) (wf := cx g q E) (pc := 78) C (fun _ _ h => c_X5_readThing h) kY_X5_readThing kw_3_149 kw_0_8 kw_3_147 rfl ⟨Nat.le_of_ble_eq_true rfl, Nat.le_of_ble_eq_true rfl⟩ rfl rfl ⟨Nat.zero_le _, Nat.zero_le _⟩ 26 rfl rfl rfl (Nat.le_of_ble_eq_true rfl) dX5_readNext_78 (fun x8 S9 => ?_)
        exact r_retWZ hR rfl (pc := 81) dX5_readNext_81
      · refine r_case (fun h12_2 => ?_) (fun h12_2 => ?_)
        · refine r_tabIn (off := 70) 82 (pc := 12) C dX5_readNext_12 h12_2 (by decide) (by decide) (by decide) (by decide) ?_
          refine r_aload_n (pc := 82) C dX5_readNext_82 0 rfl ?_
          refine r_iload_n (pc := 83) C dX5_readNext_83 1 rfl ?_
          refine r_cVwz (As := [.int x1]) (st := []) (wf := cx g q E) (pc := 84) C (fun _ _ h => c_X5_readArithmetic h) kY_X5_readArithmetic kw_3_166 kw_0_11 kw_3_164 rfl ⟨Nat.le_of_ble_eq_true rfl, Nat.le_of_ble_eq_true rfl⟩ rfl rfl ⟨Nat.zero_le _, Nat.zero_le _⟩ 26 rfl rfl rfl (Nat.le_of_ble_eq_true rfl) dX5_readNext_84 (fun x10 S11 => ?_)
          refine r_ifb_ne 113 (pc := 87) C dX5_readNext_87 (by decide) ?_ ?_
          · refine r_iconst (pc := 113) C dX5_readNext_113 (v := 1) (by decide) ?_
            refine r_goto 118 (pc := 114) C dX5_readNext_114 (by decide) ?_
            exact r_retWZ hR rfl (pc := 118) dX5_readNext_118
          · refine r_aload_n (pc := 90) C dX5_readNext_90 0 rfl ?_
            refine r_iload_n (pc := 91) C dX5_readNext_91 1 rfl ?_
            refine r_cVwz (As := [.int x1]) (st := []) (wf := cx g q E) (pc := 92) C (fun _ _ h => c_X5_readComparing h) kY_X5_readComparing kw_3_177 kw_0_13 kw_3_175 rfl ⟨Nat.le_of_ble_eq_true rfl, Nat.le_of_ble_eq_true rfl⟩ rfl rfl ⟨Nat.zero_le _, Nat.zero_le _⟩ 26 rfl rfl rfl (Nat.le_of_ble_eq_true rfl) dX5_readNext_92 (fun x12 S13 => ?_)
            refine r_ifb_ne 113 (pc := 95) C dX5_readNext_95 (by decide) ?_ ?_
            · refine r_iconst (pc := 113) C dX5_readNext_113 (v := 1) (by decide) ?_
              refine r_goto 118 (pc := 114) C dX5_readNext_114 (by decide) ?_
              exact r_retWZ hR rfl (pc := 118) dX5_readNext_118
            · refine r_aload_n (pc := 98) C dX5_readNext_98 0 rfl ?_
              refine xg_fr_isCompared (pc := 99) C kw_1_191 dX5_readNext_99 ?_
              refine r_if_eq 117 (pc := 102) C dX5_readNext_102 (by decide) ?_ ?_
              · refine r_iconst (pc := 117) C dX5_readNext_117 (v := 0) (by decide) ?_
                exact r_retWZ hR rfl (pc := 118) dX5_readNext_118
              · refine r_aload_n (pc := 105) C dX5_readNext_105 0 rfl ?_
                refine r_iload_n (pc := 106) C dX5_readNext_106 1 rfl ?_
                refine r_cVwz (As := [.int x1]) (st := []) (wf := cx g q E) (pc := 107) C (fun _ _ h => c_X5_readBehindTest h) kY_X5_readBehindTest kw_3_181 kw_0_14 kw_3_179 rfl ⟨Nat.le_of_ble_eq_true rfl, Nat.le_of_ble_eq_true rfl⟩ rfl rfl ⟨Nat.zero_le _, Nat.zero_le _⟩ 26 rfl rfl rfl (Nat.le_of_ble_eq_true rfl) dX5_readNext_107 (fun x14 S15 => ?_)
                refine r_ifb_eq 117 (pc := 110) C dX5_readNext_110 (by decide) ?_ ?_
                · refine r_iconst (pc := 117) C dX5_readNext_117 (v := 0) (by decide) ?_
                  exact r_retWZ hR rfl (pc := 118) dX5_readNext_118
                · refine r_iconst (pc := 113) C dX5_readNext_113 (v := 1) (by decide) ?_
                  refine r_goto 118 (pc := 114) C dX5_readNext_114 (by decide) ?_
                  exact r_retWZ hR rfl (pc := 118) dX5_readNext_118
        · refine r_case (fun h12_3 => ?_) (fun h12_3 => ?_)
          · refine r_tabIn (off := 36) 48 (pc := 12) C dX5_readNext_12 h12_3 (by decide) (by decide) (by decide) (by decide) ?_
            refine r_aload_n (pc := 48) C dX5_readNext_48 0 rfl ?_
            refine xg_fr_conds (pc := 49) C kw_1_186 dX5_readNext_49 ?_
            refine r_bipush (pc := 52) C dX5_readNext_52 (v := 8) (by decide) ?_
            refine r_icmp_ge 69 (pc := 54) C dX5_readNext_54 (by decide) ?_ ?_
            · refine r_iconst (pc := 69) C dX5_readNext_69 (v := 0) (by decide) ?_
              exact r_retWZ hR rfl (pc := 70) dX5_readNext_70
            · refine r_aload_n (pc := 57) C dX5_readNext_57 0 rfl ?_
              refine r_iload_n (pc := 58) C dX5_readNext_58 1 rfl ?_
              refine r_cVwz (As := [.int x1]) (st := []) (wf := cx g q E) (pc := 59) C (fun _ _ h => c_X5_readAtTest h) kY_X5_readAtTest kw_3_145 kw_0_7 kw_3_143 rfl ⟨Nat.le_of_ble_eq_true rfl, Nat.le_of_ble_eq_true rfl⟩ rfl rfl ⟨Nat.zero_le _, Nat.zero_le _⟩ 26 rfl rfl rfl (Nat.le_of_ble_eq_true rfl) dX5_readNext_59 (fun x16 S17 => ?_)
              refine r_ifb_eq 69 (pc := 62) C dX5_readNext_62 (by decide) ?_ ?_
              · refine r_iconst (pc := 69) C dX5_readNext_69 (v := 0) (by decide) ?_
                exact r_retWZ hR rfl (pc := 70) dX5_readNext_70
              · refine r_iconst (pc := 65) C dX5_readNext_65 (v := 1) (by decide) ?_
                refine r_goto 70 (pc := 66) C dX5_readNext_66 (by decide) ?_
                exact r_retWZ hR rfl (pc := 70) dX5_readNext_70
          · refine r_tabDef 119 (pc := 12) C dX5_readNext_12 (by decide) (fun j hj => ?_) (by decide) ?_
            · match j, hj with
              | 0, _ => exact Or.inr (lv_neT h12_0 (by decide))
              | 1, _ => exact Or.inr (lv_neT h12_1 (by decide))
              | 2, _ => exact Or.inr (lv_neT h12_2 (by decide))
              | 3, _ => exact Or.inl rfl
              | 4, _ => exact Or.inr (lv_neT h12_3 (by decide))
              | j + 5, hj => exact absurd hj (by simp)
            · exact hk5
set_option maxRecDepth 100000 in
theorem w_X5_readNext {S : CS}  {r : Bool} {S' : CS} (h : f_X5_readNext S = some (r, S')) : gI [2, 3, 5, 10, 11, 12, 13, 14, 15, 16] [27, 28, 29] S S' := by
  have hS : gI [2, 3, 5, 10, 11, 12, 13, 14, 15, 16] [27, 28, 29] S S := gI_rf
  refine (?_ : jf (gI [2, 3, 5, 10, 11, 12, 13, 14, 15, 16] [27, 28, 29] S) Prod.snd (f_X5_readNext S)) _ h
  unfold f_X5_readNext
  refine f_bp (fun x1 => ?_)
  refine f_jm0 hS (fun  hS => ?_) (fun k4 hk5 => ?_)
  · refine f_bwS (fun _ _ h => gI_tr hS (w_X5_readBehindTest h) (by decide) (by decide)) (fun x2 S3 hS3 => ?_)
    exact f_some hS3
  · refine f_ite ?_ ?_
    · refine f_bwS (fun _ _ h => gI_tr hS (w_X5_readAtTest h) (by decide) (by decide)) (fun x6 S7 hS7 => ?_)
      exact f_some hS7
    · refine f_ite ?_ ?_
      · refine f_bwS (fun _ _ h => gI_tr hS (w_X5_readThing h) (by decide) (by decide)) (fun x8 S9 hS9 => ?_)
        exact f_some hS9
      · refine f_ite ?_ ?_
        · refine f_bwS (fun _ _ h => gI_tr hS (w_X5_readArithmetic h) (by decide) (by decide)) (fun x10 S11 hS11 => ?_)
          refine f_ite ?_ ?_
          · exact f_some hS11
          · refine f_bwS (fun _ _ h => gI_tr hS11 (w_X5_readComparing h) (by decide) (by decide)) (fun x12 S13 hS13 => ?_)
            refine f_ite ?_ ?_
            · exact f_some hS13
            · refine f_ite ?_ ?_
              · exact f_some hS13
              · refine f_bwS (fun _ _ h => gI_tr hS13 (w_X5_readBehindTest h) (by decide) (by decide)) (fun x14 S15 hS15 => ?_)
                refine f_ite ?_ ?_
                · exact f_some hS15
                · exact f_some hS15
        · refine f_ite ?_ ?_
          · refine f_ite ?_ ?_
            · exact f_some hS
            · refine f_bwS (fun _ _ h => gI_tr hS (w_X5_readAtTest h) (by decide) (by decide)) (fun x16 S17 hS17 => ?_)
              refine f_ite ?_ ?_
              · exact f_some hS17
              · exact f_some hS17
          · exact hk5 hS
