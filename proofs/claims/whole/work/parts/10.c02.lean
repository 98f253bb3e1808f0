abbrev rm_X1_countStanding : Room := { frames := 1, cells := 0, slots := 0, locals := 22 }
theorem kY_X1_countStanding : kY yX1_countStanding cX1_countStanding 4 (some .int) 1 := ⟨kw_1_3, kw_3_231, by decide, by decide, by decide +kernel⟩
def L_X1_countStanding_4 (S : CS) (c1 : Int32) (k5 : Int32 → Option (Int32)) : Nat → Int32 → Int32 → Option (Int32) := lo2 fun rec3 x1 x2 =>
  (if (S.1 6) ≤ x2 then
  k5 x1
 else
  bp (f_X1_isStanding S x2 c1) (fun x7 =>
  jn1 (fun (x8 : Int32) =>
  lt (x1 + x8) fun x9 =>
  lt (x2 + 1) fun x10 =>
  rec3 x9 x10) (fun k11 =>
  (if x7 = true then
  k11 1
 else
  k11 0))))
set_option maxRecDepth 100000 in
set_option maxHeartbeats 4000000 in
theorem l_X1_countStanding_4 {X : KX} {g : KG} {q : Nat → Nat} {E : va_W} {res : Int32} {S : CS} (C : kC X g cX1_countStanding "MarkChains$Book" rm_X1_countStanding 4) (hR : ∀ (pc : Nat) (lv : List (Nat × Value)), decode cX1_countStanding pc = .ok (.ireturn, 1) → jW X g (cx g q E S) 0 0 pc lv [.int res]) (c1 : Int32) (k5 : Int32 → Option (Int32)) (hk6 : ∀ (x13 : Int32), jJ X g res (cx g q E S) 0 0 35 [(2, .int x13)] [] (k5 x13)) : ∀ (n : Nat) (x1 : Int32) (x2 : Int32), jJ X g res (cx g q E S) 0 0 4 [(0, .ref (q 3)), (1, .int c1), (2, .int x1), (3, .int x2)] [] (L_X1_countStanding_4 S c1 k5 n x1 x2) := by
  refine r_lo2 (fun x1 x2 => cx g q E S) (fun x1 x2 => [(0, .ref (q 3)), (1, .int c1), (2, .int x1), (3, .int x2)]) (fun rec3 ih4 x1 x2 => ?_)
  refine r_iload_n (pc := 4) C dX1_countStanding_4 3 rfl ?_
  refine r_aload_n (pc := 5) C dX1_countStanding_5 0 rfl ?_
  refine xg_bk_size (pc := 6) C kw_1_125 dX1_countStanding_6 ?_
  refine r_icmp_ge 35 (pc := 9) C dX1_countStanding_9 (by decide) ?_ ?_
  · refine r_sub (lv' := [(2, .int x1)]) [2] rfl ?_
    exact hk6 x1
  · refine r_iload_n (pc := 12) C dX1_countStanding_12 2 rfl ?_
    refine r_aload_n (pc := 13) C dX1_countStanding_13 0 rfl ?_
    refine r_iload_n (pc := 14) C dX1_countStanding_14 3 rfl ?_
    refine r_iload_n (pc := 15) C dX1_countStanding_15 1 rfl ?_
    refine r_cVpz (As := [.int x2, .int c1]) (st := [.int x1]) (pc := 16) C (fun _ h => c_X1_isStanding h) kY_X1_isStanding kw_3_233 kw_3_234 kw_3_232 rfl ⟨Nat.le_of_ble_eq_true rfl, Nat.le_of_ble_eq_true rfl⟩ rfl rfl ⟨Nat.zero_le _, Nat.zero_le _⟩ 3 rfl rfl rfl (Nat.le_of_ble_eq_true rfl) dX1_countStanding_16 (fun x7 => ?_)
    refine r_jn1 27 (fun (x8 : Int32) => cx g q E S) (fun (x8 : Int32) => [(0, .ref (q 3)), (1, .int c1), (3, .int x2)]) (fun (x8 : Int32) => [.int x8, .int x1]) (fun x8 => ?_) (fun k11 hk12 => ?_)
    · refine r_iadd (pc := 27) C dX1_countStanding_27 ?_
      refine r_istoreV_n (pc := 28) C dX1_countStanding_28 (lv' := fun x9 => [(0, .ref (q 3)), (1, .int c1), (2, .int x9), (3, .int x2)]) (by decide) [1, 2, 0, 3] (fun _ => rfl) (fun x9 => ?_)
      refine r_iinc (pc := 29) C dX1_countStanding_29 (v := 1) (lv' := fun x10 => [(0, .ref (q 3)), (1, .int c1), (2, .int x9), (3, .int x10)]) 3 rfl (by decide) (by decide) [1, 2, 3, 0] (fun _ => rfl) (fun x10 => ?_)
      refine r_goto 4 (pc := 32) C dX1_countStanding_32 (by decide) ?_
      exact ih4 x9 x10
    · refine r_ifb_eq 26 (pc := 19) C dX1_countStanding_19 (by decide) ?_ ?_
      · refine r_iconst (pc := 26) C dX1_countStanding_26 (v := 0) (by decide) ?_
        refine r_sub (lv' := [(0, .ref (q 3)), (1, .int c1), (3, .int x2)]) [0, 1, 3] rfl ?_
        exact hk12 0
      · refine r_iconst (pc := 22) C dX1_countStanding_22 (v := 1) (by decide) ?_
        refine r_goto 27 (pc := 23) C dX1_countStanding_23 (by decide) ?_
        refine r_sub (lv' := [(0, .ref (q 3)), (1, .int c1), (3, .int x2)]) [0, 1, 3] rfl ?_
        exact hk12 1
def f_X1_countStanding (S : CS) (a1 : Int32) : Option (Int32) :=
  L_X1_countStanding_4 S a1 (fun x14 =>
  some x14) FU 0 0
set_option maxRecDepth 100000 in
set_option maxHeartbeats 4000000 in
theorem c_X1_countStanding {g : KG} {q : Nat → Nat} {E : va_W} {S : CS} {a1 : Int32} {r : Int32} (h : f_X1_countStanding S a1 = some r) : ∀ l, kM l yX1_countStanding cX1_countStanding 4 (some .int) rm_X1_countStanding g [.ref (q 3), .int a1] (cx g q E S) (cx g q E S) (some (.int r)) 0 0 := by
  refine k_open_i (own := "MarkChains$Book") (by decide) rfl (Nat.le_of_ble_eq_true rfl) (fun X C hR => ?_)
  refine (?_ : jJ X g (r : Int32) (cx g q E S) 0 0 0 [(0, .ref (q 3)), (1, .int a1)] [] (f_X1_countStanding S a1)) h
  unfold f_X1_countStanding
  refine r_iconst (pc := 0) C dX1_countStanding_0 (v := 0) (by decide) ?_
  refine r_istore_n (pc := 1) C dX1_countStanding_1 (lv' := [(0, .ref (q 3)), (1, .int a1), (2, .int 0)]) (by decide) [1, 2, 0] rfl ?_
  refine r_iconst (pc := 2) C dX1_countStanding_2 (v := 0) (by decide) ?_
  refine r_istore_n (pc := 3) C dX1_countStanding_3 (lv' := [(0, .ref (q 3)), (1, .int a1), (2, .int 0), (3, .int 0)]) (by decide) [1, 2, 3, 0] rfl ?_
  refine l_X1_countStanding_4 C hR a1 _ (fun x14 => ?_) FU 0 0
  refine r_iload_n (pc := 35) C dX1_countStanding_35 0 rfl ?_
  exact r_retPI hR (pc := 36) dX1_countStanding_36
abbrev rm_X1_countStruck : Room := { frames := 0, cells := 0, slots := 0, locals := 0 }
theorem kY_X1_countStruck : kY yX1_countStruck cX1_countStruck 3 (some .int) 0 := ⟨kw_1_3, kw_3_239, by decide, by decide, by decide +kernel⟩
def L_X1_countStruck_4 (S : CS) (k5 : Int32 → Option (Int32)) : Nat → Int32 → Int32 → Option (Int32) := lo2 fun rec3 x1 x2 =>
  (if (S.1 6) ≤ x2 then
  k5 x1
 else
  chk x2 60 (
  jn1 (fun (x7 : Int32) =>
  lt (x1 + x7) fun x8 =>
  lt (x2 + 1) fun x9 =>
  rec3 x8 x9) (fun k10 =>
  (if (S.2.1 23 x2.toNatClampNeg) = (-1) then
  k10 0
 else
  k10 1))))
set_option maxRecDepth 100000 in
set_option maxHeartbeats 4000000 in
theorem l_X1_countStruck_4 {X : KX} {g : KG} {q : Nat → Nat} {E : va_W} {res : Int32} {S : CS} (C : kC X g cX1_countStruck "MarkChains$Book" rm_X1_countStruck 3) (hR : ∀ (pc : Nat) (lv : List (Nat × Value)), decode cX1_countStruck pc = .ok (.ireturn, 1) → jW X g (cx g q E S) 0 0 pc lv [.int res]) (k5 : Int32 → Option (Int32)) (hk6 : ∀ (x12 : Int32), jJ X g res (cx g q E S) 0 0 36 [(1, .int x12)] [] (k5 x12)) : ∀ (n : Nat) (x1 : Int32) (x2 : Int32), jJ X g res (cx g q E S) 0 0 4 [(0, .ref (q 3)), (1, .int x1), (2, .int x2)] [] (L_X1_countStruck_4 S k5 n x1 x2) := by
  refine r_lo2 (fun x1 x2 => cx g q E S) (fun x1 x2 => [(0, .ref (q 3)), (1, .int x1), (2, .int x2)]) (fun rec3 ih4 x1 x2 => ?_)
  refine r_iload_n (pc := 4) C dX1_countStruck_4 2 rfl ?_
  refine r_aload_n (pc := 5) C dX1_countStruck_5 0 rfl ?_
  refine xg_bk_size (pc := 6) C kw_1_125 dX1_countStruck_6 ?_
  refine r_icmp_ge 36 (pc := 9) C dX1_countStruck_9 (by decide) ?_ ?_
  · refine r_sub (lv' := [(1, .int x1)]) [1] rfl ?_
    exact hk6 x1
  · refine r_iload_n (pc := 12) C dX1_countStruck_12 1 rfl ?_
    refine r_aload_n (pc := 13) C dX1_countStruck_13 0 rfl ?_
    refine xg_bk_struck (pc := 14) C kw_1_121 dX1_countStruck_14 ?_
    refine r_iload_n (pc := 17) C dX1_countStruck_17 2 rfl ?_
    refine xl_bk_struck (pc := 18) C dX1_countStruck_18 ?_
    refine r_iconst (pc := 19) C dX1_countStruck_19 (v := (-1)) (by decide) ?_
    refine r_jn1 28 (fun (x7 : Int32) => cx g q E S) (fun (x7 : Int32) => [(0, .ref (q 3)), (2, .int x2)]) (fun (x7 : Int32) => [.int x7, .int x1]) (fun x7 => ?_) (fun k10 hk11 => ?_)
    · refine r_iadd (pc := 28) C dX1_countStruck_28 ?_
      refine r_istoreV_n (pc := 29) C dX1_countStruck_29 (lv' := fun x8 => [(0, .ref (q 3)), (1, .int x8), (2, .int x2)]) (by decide) [1, 0, 2] (fun _ => rfl) (fun x8 => ?_)
      refine r_iinc (pc := 30) C dX1_countStruck_30 (v := 1) (lv' := fun x9 => [(0, .ref (q 3)), (1, .int x8), (2, .int x9)]) 2 rfl (by decide) (by decide) [1, 2, 0] (fun _ => rfl) (fun x9 => ?_)
      refine r_goto 4 (pc := 33) C dX1_countStruck_33 (by decide) ?_
      exact ih4 x8 x9
    · refine r_icmp_eq 27 (pc := 20) C dX1_countStruck_20 (by decide) ?_ ?_
      · refine r_iconst (pc := 27) C dX1_countStruck_27 (v := 0) (by decide) ?_
        refine r_sub (lv' := [(0, .ref (q 3)), (2, .int x2)]) [0, 2] rfl ?_
        exact hk11 0
      · refine r_iconst (pc := 23) C dX1_countStruck_23 (v := 1) (by decide) ?_
        refine r_goto 28 (pc := 24) C dX1_countStruck_24 (by decide) ?_
        refine r_sub (lv' := [(0, .ref (q 3)), (2, .int x2)]) [0, 2] rfl ?_
        exact hk11 1
def f_X1_countStruck (S : CS) : Option (Int32) :=
  L_X1_countStruck_4 S (fun x13 =>
  some x13) FU 0 0
set_option maxRecDepth 100000 in
set_option maxHeartbeats 4000000 in
theorem c_X1_countStruck {g : KG} {q : Nat → Nat} {E : va_W} {S : CS}  {r : Int32} (h : f_X1_countStruck S = some r) : ∀ l, kM l yX1_countStruck cX1_countStruck 3 (some .int) rm_X1_countStruck g [.ref (q 3)] (cx g q E S) (cx g q E S) (some (.int r)) 0 0 := by
  refine k_open_i (own := "MarkChains$Book") (by decide) rfl (Nat.le_of_ble_eq_true rfl) (fun X C hR => ?_)
  refine (?_ : jJ X g (r : Int32) (cx g q E S) 0 0 0 [(0, .ref (q 3))] [] (f_X1_countStruck S)) h
  unfold f_X1_countStruck
  refine r_iconst (pc := 0) C dX1_countStruck_0 (v := 0) (by decide) ?_
  refine r_istore_n (pc := 1) C dX1_countStruck_1 (lv' := [(0, .ref (q 3)), (1, .int 0)]) (by decide) [1, 0] rfl ?_
  refine r_iconst (pc := 2) C dX1_countStruck_2 (v := 0) (by decide) ?_
  refine r_istore_n (pc := 3) C dX1_countStruck_3 (lv' := [(0, .ref (q 3)), (1, .int 0), (2, .int 0)]) (by decide) [1, 2, 0] rfl ?_
  refine l_X1_countStruck_4 C hR _ (fun x13 => ?_) FU 0 0
  refine r_iload_n (pc := 36) C dX1_countStruck_36 0 rfl ?_
  exact r_retPI hR (pc := 37) dX1_countStruck_37
abbrev rm_X1_countRatified : Room := { frames := 0, cells := 0, slots := 0, locals := 0 }
theorem kY_X1_countRatified : kY yX1_countRatified cX1_countRatified 3 (some .int) 0 := ⟨kw_1_3, kw_4_3, by decide, by decide, by decide +kernel⟩
def L_X1_countRatified_4 (S : CS) (k5 : Int32 → Option (Int32)) : Nat → Int32 → Int32 → Option (Int32) := lo2 fun rec3 x1 x2 =>
  (if (S.1 6) ≤ x2 then
  k5 x1
 else
  chk x2 60 (
  jn1 (fun (x7 : Int32) =>
  lt (x1 + x7) fun x8 =>
  lt (x2 + 1) fun x9 =>
  rec3 x8 x9) (fun k10 =>
  (if (S.2.1 22 x2.toNatClampNeg) = (-1) then
  k10 0
 else
  k10 1))))
set_option maxRecDepth 100000 in
set_option maxHeartbeats 4000000 in
theorem l_X1_countRatified_4 {X : KX} {g : KG} {q : Nat → Nat} {E : va_W} {res : Int32} {S : CS} (C : kC X g cX1_countRatified "MarkChains$Book" rm_X1_countRatified 3) (hR : ∀ (pc : Nat) (lv : List (Nat × Value)), decode cX1_countRatified pc = .ok (.ireturn, 1) → jW X g (cx g q E S) 0 0 pc lv [.int res]) (k5 : Int32 → Option (Int32)) (hk6 : ∀ (x12 : Int32), jJ X g res (cx g q E S) 0 0 36 [(1, .int x12)] [] (k5 x12)) : ∀ (n : Nat) (x1 : Int32) (x2 : Int32), jJ X g res (cx g q E S) 0 0 4 [(0, .ref (q 3)), (1, .int x1), (2, .int x2)] [] (L_X1_countRatified_4 S k5 n x1 x2) := by
  refine r_lo2 (fun x1 x2 => cx g q E S) (fun x1 x2 => [(0, .ref (q 3)), (1, .int x1), (2, .int x2)]) (fun rec3 ih4 x1 x2 => ?_)
  refine r_iload_n (pc := 4) C dX1_countRatified_4 2 rfl ?_
  refine r_aload_n (pc := 5) C dX1_countRatified_5 0 rfl ?_
  refine xg_bk_size (pc := 6) C kw_1_125 dX1_countRatified_6 ?_
  refine r_icmp_ge 36 (pc := 9) C dX1_countRatified_9 (by decide) ?_ ?_
  · refine r_sub (lv' := [(1, .int x1)]) [1] rfl ?_
    exact hk6 x1
  · refine r_iload_n (pc := 12) C dX1_countRatified_12 1 rfl ?_
    refine r_aload_n (pc := 13) C dX1_countRatified_13 0 rfl ?_
    refine xg_bk_ratified (pc := 14) C kw_1_119 dX1_countRatified_14 ?_
    refine r_iload_n (pc := 17) C dX1_countRatified_17 2 rfl ?_
    refine xl_bk_ratified (pc := 18) C dX1_countRatified_18 ?_
    refine r_iconst (pc := 19) C dX1_countRatified_19 (v := (-1)) (by decide) ?_
    refine r_jn1 28 (fun (x7 : Int32) => cx g q E S) (fun (x7 : Int32) => [(0, .ref (q 3)), (2, .int x2)]) (fun (x7 : Int32) => [.int x7, .int x1]) (fun x7 => ?_) (fun k10 hk11 => ?_)
    · refine r_iadd (pc := 28) C dX1_countRatified_28 ?_
      refine r_istoreV_n (pc := 29) C dX1_countRatified_29 (lv' := fun x8 => [(0, .ref (q 3)), (1, .int x8), (2, .int x2)]) (by decide) [1, 0, 2] (fun _ => rfl) (fun x8 => ?_)
      refine r_iinc (pc := 30) C dX1_countRatified_30 (v := 1) (lv' := fun x9 => [(0, .ref (q 3)), (1, .int x8), (2, .int x9)]) 2 rfl (by decide) (by decide) [1, 2, 0] (fun _ => rfl) (fun x9 => ?_)
      refine r_goto 4 (pc := 33) C dX1_countRatified_33 (by decide) ?_
      exact ih4 x8 x9
    · refine r_icmp_eq 27 (pc := 20) C dX1_countRatified_20 (by decide) ?_ ?_
      · refine r_iconst (pc := 27) C dX1_countRatified_27 (v := 0) (by decide) ?_
        refine r_sub (lv' := [(0, .ref (q 3)), (2, .int x2)]) [0, 2] rfl ?_
        exact hk11 0
      · refine r_iconst (pc := 23) C dX1_countRatified_23 (v := 1) (by decide) ?_
        refine r_goto 28 (pc := 24) C dX1_countRatified_24 (by decide) ?_
        refine r_sub (lv' := [(0, .ref (q 3)), (2, .int x2)]) [0, 2] rfl ?_
        exact hk11 1
def f_X1_countRatified (S : CS) : Option (Int32) :=
  L_X1_countRatified_4 S (fun x13 =>
  some x13) FU 0 0
set_option maxRecDepth 100000 in
set_option maxHeartbeats 4000000 in
theorem c_X1_countRatified {g : KG} {q : Nat → Nat} {E : va_W} {S : CS}  {r : Int32} (h : f_X1_countRatified S = some r) : ∀ l, kM l yX1_countRatified cX1_countRatified 3 (some .int) rm_X1_countRatified g [.ref (q 3)] (cx g q E S) (cx g q E S) (some (.int r)) 0 0 := by
  refine k_open_i (own := "MarkChains$Book") (by decide) rfl (Nat.le_of_ble_eq_true rfl) (fun X C hR => ?_)
  refine (?_ : jJ X g (r : Int32) (cx g q E S) 0 0 0 [(0, .ref (q 3))] [] (f_X1_countRatified S)) h
  unfold f_X1_countRatified
  refine r_iconst (pc := 0) C dX1_countRatified_0 (v := 0) (by decide) ?_
  refine r_istore_n (pc := 1) C dX1_countRatified_1 (lv' := [(0, .ref (q 3)), (1, .int 0)]) (by decide) [1, 0] rfl ?_
  refine r_iconst (pc := 2) C dX1_countRatified_2 (v := 0) (by decide) ?_
  refine r_istore_n (pc := 3) C dX1_countRatified_3 (lv' := [(0, .ref (q 3)), (1, .int 0), (2, .int 0)]) (by decide) [1, 2, 0] rfl ?_
  refine l_X1_countRatified_4 C hR _ (fun x13 => ?_) FU 0 0
  refine r_iload_n (pc := 36) C dX1_countRatified_36 0 rfl ?_
  exact r_retPI hR (pc := 37) dX1_countRatified_37
abbrev rm_X4_pop_nf : Room := { frames := 0, cells := 0, slots := 0, locals := 0 }
theorem kY_X4_pop : kY yX4_pop cX4_pop 1 (some .int) 0 := ⟨kw_1_12, kw_4_31, by decide, by decide, by decide +kernel⟩
def f_X4_pop_nf (S : CS) : Option (Int32 × CS) :=
  (if 0 < (S.1 24) then
  lt (ci S 24 ((S.1 24) - 1)) fun S1 =>
  chk (S1.1 24) 60 (
  some (S1.2.1 48 (S1.1 24).toNatClampNeg, S1))
 else
  some (0, S))
set_option maxRecDepth 100000 in
set_option maxHeartbeats 4000000 in
theorem c_X4_pop_nf {g : KG} {q : Nat → Nat} {E : va_W} {S : CS}  {r : Int32} {S' : CS} (h : f_X4_pop_nf S = some (r, S')) : ∀ l, kM l yX4_pop cX4_pop 1 (some .int) rm_X4_pop_nf g [.ref (q 45)] (cx g q E S) (cx g q E S') (some (.int r)) 0 0 := by
  refine k_open_i (own := "MarkChains$Formula") (by decide) rfl (Nat.le_of_ble_eq_true rfl) (fun X C hR => ?_)
  refine (?_ : jJ X g ((r, S') : Int32 × CS) (cx g q E S) 0 0 0 [(0, .ref (q 45))] [] (f_X4_pop_nf S)) h
  unfold f_X4_pop_nf
  refine r_aload_n (pc := 0) C dX4_pop_0 0 rfl ?_
  refine xg_nf_height (pc := 1) C kw_2_64 dX4_pop_1 ?_
  refine r_if_gt 9 (pc := 4) C dX4_pop_4 (by decide) ?_ ?_
  · refine r_aload_n (pc := 9) C dX4_pop_9 0 rfl ?_
    refine r_dup (pc := 10) C dX4_pop_10 rfl ?_
    refine xg_nf_height (pc := 11) C kw_2_64 dX4_pop_11 ?_
    refine r_iconst (pc := 14) C dX4_pop_14 (v := 1) (by decide) ?_
    refine r_isub (pc := 15) C dX4_pop_15 ?_
    refine xp_nf_height (pc := 16) C kw_2_64 dX4_pop_16 (fun S1 => ?_)
    refine r_aload_n (pc := 19) C dX4_pop_19 0 rfl ?_
    refine xg_nf_stack (pc := 20) C kw_2_63 dX4_pop_20 ?_
    refine r_aload_n (pc := 23) C dX4_pop_23 0 rfl ?_
    refine xg_nf_height (pc := 24) C kw_2_64 dX4_pop_24 ?_
    refine xl_nf_stack (pc := 27) C dX4_pop_27 ?_
    exact r_retWI (wf := cx g q E) hR (pc := 28) dX4_pop_28
  · refine r_iconst (pc := 7) C dX4_pop_7 (v := 0) (by decide) ?_
    exact r_retWI (wf := cx g q E) hR (pc := 8) dX4_pop_8
set_option maxRecDepth 100000 in
theorem w_X4_pop_nf {S : CS}  {r : Int32} {S' : CS} (h : f_X4_pop_nf S = some (r, S')) : gI [24] [] S S' := by
  have hS : gI [24] [] S S := gI_rf
  refine (?_ : jf (gI [24] [] S) Prod.snd (f_X4_pop_nf S)) _ h
  unfold f_X4_pop_nf
  refine f_ite ?_ ?_
  · refine f_ltS (gI_ci hS (by decide)) (fun S1 hS1 => ?_)
    refine f_chk ?_
    exact f_some hS1
  · exact f_some hS
abbrev rm_X4_joined : Room := { frames := 0, cells := 0, slots := 0, locals := 0 }
theorem kY_X4_joined : kY yX4_joined cX4_joined 3 (some .int) 3 := ⟨kw_1_12, kw_4_34, by decide, by decide, by decide +kernel⟩
def f_X4_joined (a0 : Int32) (a1 : Int32) (a2 : Int32) : Option (Int32) :=
  jn0 (some (a1 ||| a2)) (fun k1 =>
  (if a0 = 38 then
  some (a1 &&& a2)
 else
  (if a0 = 42 then
  some (a1 * a2)
 else
  (if a0 = 43 then
  some (a1 + a2)
 else
  (if a0 = 45 then
  some (a1 - a2)
 else
  (if a0 = 47 then
  (if a2 = 0 then
  some 0
 else
  nz a2 (
  some (a1 / a2)))
 else
  (if a0 = 60 then
  (if a2 ≤ a1 then
  some 0
 else
  some 1)
 else
  (if a0 = 61 then
  (if a1 = a2 then
  some 1
 else
  some 0)
 else
  (if a0 = 62 then
  (if a1 ≤ a2 then
  some 0
 else
  some 1)
 else
  k1)))))))))
set_option maxRecDepth 100000 in
set_option maxHeartbeats 4000000 in
theorem c_X4_joined {g : KG} {ws : va_W} {a0 : Int32} {a1 : Int32} {a2 : Int32} {r : Int32} (h : f_X4_joined a0 a1 a2 = some r) : ∀ l, kM l yX4_joined cX4_joined 3 (some .int) rm_X4_joined g [.int a0, .int a1, .int a2] (ws) (ws) (some (.int r)) 0 0 := by
  refine k_open_i (own := "MarkChains$Formula") (by decide) rfl (Nat.le_of_ble_eq_true rfl) (fun X C hR => ?_)
  refine (?_ : jJ X g (r : Int32) (ws) 0 0 0 [(0, .int a0), (1, .int a1), (2, .int a2)] [] (f_X4_joined a0 a1 a2)) h
  unfold f_X4_joined
  refine r_iload_n (pc := 0) C dX4_joined_0 0 rfl ?_
  refine r_jn0 177 (ws) ([(1, .int a1), (2, .int a2)]) ([]) ?_ (fun k1 hk2 => ?_)
  · refine r_iload_n (pc := 177) C dX4_joined_177 0 rfl ?_
    refine r_iload_n (pc := 178) C dX4_joined_178 1 rfl ?_
    refine r_ior (pc := 179) C dX4_joined_179 ?_
    exact r_retPI hR (pc := 180) dX4_joined_180
  · refine r_case (fun h1_0 => ?_) (fun h1_0 => ?_)
    · refine r_tabIn (off := 172) 173 (pc := 1) C dX4_joined_1 h1_0 (by decide) (by decide) (by decide) (by decide) ?_
      refine r_iload_n (pc := 173) C dX4_joined_173 1 rfl ?_
      refine r_iload_n (pc := 174) C dX4_joined_174 2 rfl ?_
      refine r_iand (pc := 175) C dX4_joined_175 ?_
      exact r_retPI hR (pc := 176) dX4_joined_176
    · refine r_case (fun h1_1 => ?_) (fun h1_1 => ?_)
      · refine r_tabIn (off := 123) 124 (pc := 1) C dX4_joined_1 h1_1 (by decide) (by decide) (by decide) (by decide) ?_
        refine r_iload_n (pc := 124) C dX4_joined_124 1 rfl ?_
        refine r_iload_n (pc := 125) C dX4_joined_125 2 rfl ?_
        refine r_imul (pc := 126) C dX4_joined_126 ?_
        exact r_retPI hR (pc := 127) dX4_joined_127
      · refine r_case (fun h1_2 => ?_) (fun h1_2 => ?_)
        · refine r_tabIn (off := 115) 116 (pc := 1) C dX4_joined_1 h1_2 (by decide) (by decide) (by decide) (by decide) ?_
          refine r_iload_n (pc := 116) C dX4_joined_116 1 rfl ?_
          refine r_iload_n (pc := 117) C dX4_joined_117 2 rfl ?_
          refine r_iadd (pc := 118) C dX4_joined_118 ?_
          exact r_retPI hR (pc := 119) dX4_joined_119
        · refine r_case (fun h1_3 => ?_) (fun h1_3 => ?_)
          · refine r_tabIn (off := 119) 120 (pc := 1) C dX4_joined_1 h1_3 (by decide) (by decide) (by decide) (by decide) ?_
            refine r_iload_n (pc := 120) C dX4_joined_120 1 rfl ?_
            refine r_iload_n (pc := 121) C dX4_joined_121 2 rfl ?_
            refine r_isub (pc := 122) C dX4_joined_122 ?_
            exact r_retPI hR (pc := 123) dX4_joined_123
          · refine r_case (fun h1_4 => ?_) (fun h1_4 => ?_)
            · refine r_tabIn (off := 127) 128 (pc := 1) C dX4_joined_1 h1_4 (by decide) (by decide) (by decide) (by decide) ?_
              refine r_iload_n (pc := 128) C dX4_joined_128 2 rfl ?_
              refine r_if_ne 136 (pc := 129) C dX4_joined_129 (by decide) ?_ ?_
              · refine r_iload_n (pc := 136) C dX4_joined_136 1 rfl ?_
                refine r_iload_n (pc := 137) C dX4_joined_137 2 rfl ?_
                refine r_idivN (pc := 138) C dX4_joined_138 ?_
                exact r_retPI hR (pc := 139) dX4_joined_139
              · refine r_iconst (pc := 132) C dX4_joined_132 (v := 0) (by decide) ?_
                refine r_goto 139 (pc := 133) C dX4_joined_133 (by decide) ?_
                exact r_retPI hR (pc := 139) dX4_joined_139
            · refine r_case (fun h1_5 => ?_) (fun h1_5 => ?_)
              · refine r_tabIn (off := 139) 140 (pc := 1) C dX4_joined_1 h1_5 (by decide) (by decide) (by decide) (by decide) ?_
                refine r_iload_n (pc := 140) C dX4_joined_140 1 rfl ?_
                refine r_iload_n (pc := 141) C dX4_joined_141 2 rfl ?_
                refine r_icmp_ge 149 (pc := 142) C dX4_joined_142 (by decide) ?_ ?_
                · refine r_iconst (pc := 149) C dX4_joined_149 (v := 0) (by decide) ?_
                  exact r_retPI hR (pc := 150) dX4_joined_150
                · refine r_iconst (pc := 145) C dX4_joined_145 (v := 1) (by decide) ?_
                  refine r_goto 150 (pc := 146) C dX4_joined_146 (by decide) ?_
                  exact r_retPI hR (pc := 150) dX4_joined_150
              · refine r_case (fun h1_6 => ?_) (fun h1_6 => ?_)
                · refine r_tabIn (off := 161) 162 (pc := 1) C dX4_joined_1 h1_6 (by decide) (by decide) (by decide) (by decide) ?_
                  refine r_iload_n (pc := 162) C dX4_joined_162 1 rfl ?_
                  refine r_iload_n (pc := 163) C dX4_joined_163 2 rfl ?_
                  refine r_icmp_ne 171 (pc := 164) C dX4_joined_164 (by decide) ?_ ?_
                  · refine r_iconst (pc := 171) C dX4_joined_171 (v := 0) (by decide) ?_
                    exact r_retPI hR (pc := 172) dX4_joined_172
                  · refine r_iconst (pc := 167) C dX4_joined_167 (v := 1) (by decide) ?_
                    refine r_goto 172 (pc := 168) C dX4_joined_168 (by decide) ?_
                    exact r_retPI hR (pc := 172) dX4_joined_172
                · refine r_case (fun h1_7 => ?_) (fun h1_7 => ?_)
                  · refine r_tabIn (off := 150) 151 (pc := 1) C dX4_joined_1 h1_7 (by decide) (by decide) (by decide) (by decide) ?_
                    refine r_iload_n (pc := 151) C dX4_joined_151 1 rfl ?_
                    refine r_iload_n (pc := 152) C dX4_joined_152 2 rfl ?_
                    refine r_icmp_le 160 (pc := 153) C dX4_joined_153 (by decide) ?_ ?_
                    · refine r_iconst (pc := 160) C dX4_joined_160 (v := 0) (by decide) ?_
                      exact r_retPI hR (pc := 161) dX4_joined_161
                    · refine r_iconst (pc := 156) C dX4_joined_156 (v := 1) (by decide) ?_
                      refine r_goto 161 (pc := 157) C dX4_joined_157 (by decide) ?_
                      exact r_retPI hR (pc := 161) dX4_joined_161
                  · refine r_tabDef 177 (pc := 1) C dX4_joined_1 (by decide) (fun j hj => ?_) (by decide) ?_
                    · match j, hj with
                      | 0, _ => exact Or.inr (lv_neT h1_0 (by decide))
                      | 1, _ => exact Or.inl rfl
                      | 2, _ => exact Or.inl rfl
                      | 3, _ => exact Or.inl rfl
                      | 4, _ => exact Or.inr (lv_neT h1_1 (by decide))
                      | 5, _ => exact Or.inr (lv_neT h1_2 (by decide))
                      | 6, _ => exact Or.inl rfl
                      | 7, _ => exact Or.inr (lv_neT h1_3 (by decide))
                      | 8, _ => exact Or.inl rfl
                      | 9, _ => exact Or.inr (lv_neT h1_4 (by decide))
                      | 10, _ => exact Or.inl rfl
                      | 11, _ => exact Or.inl rfl
                      | 12, _ => exact Or.inl rfl
                      | 13, _ => exact Or.inl rfl
                      | 14, _ => exact Or.inl rfl
                      | 15, _ => exact Or.inl rfl
                      | 16, _ => exact Or.inl rfl
                      | 17, _ => exact Or.inl rfl
                      | 18, _ => exact Or.inl rfl
                      | 19, _ => exact Or.inl rfl
                      | 20, _ => exact Or.inl rfl
                      | 21, _ => exact Or.inl rfl
                      | 22, _ => exact Or.inr (lv_neT h1_5 (by decide))
                      | 23, _ => exact Or.inr (lv_neT h1_6 (by decide))
                      | 24, _ => exact Or.inr (lv_neT h1_7 (by decide))
                      | j + 25, hj => exact absurd hj (by simp)
                    · refine r_sub (lv' := [(1, .int a1), (2, .int a2)]) [1, 2] rfl ?_
                      exact hk2
abbrev rm_X4_push_nf : Room := { frames := 0, cells := 0, slots := 0, locals := 0 }
theorem kY_X4_push : kY yX4_push cX4_push 2 none 1 := ⟨kw_1_12, kw_4_19, by decide, by decide, by decide +kernel⟩
def f_X4_push_nf (S : CS) (a1 : Int32) : Option (CS) :=
  (if 60 ≤ (S.1 24) then
  some S
 else
  chk (S.1 24) 60 (lt (ca S 48 (upd (S.2.1 48) (S.1 24).toNatClampNeg a1)) fun S1 =>
  lt (ci S1 24 ((S1.1 24) + 1)) fun S2 =>
  some S2))
set_option maxRecDepth 100000 in
set_option maxHeartbeats 4000000 in
theorem c_X4_push_nf {g : KG} {q : Nat → Nat} {E : va_W} {S : CS} {a1 : Int32} {S' : CS} (h : f_X4_push_nf S a1 = some S') : ∀ l, kM l yX4_push cX4_push 2 none rm_X4_push_nf g [.ref (q 45), .int a1] (cx g q E S) (cx g q E S') (none) 0 0 := by
  refine k_open_v (own := "MarkChains$Formula") (by decide) rfl (Nat.le_of_ble_eq_true rfl) (fun X C hR => ?_)
  refine (?_ : jJ X g (S' : CS) (cx g q E S) 0 0 0 [(0, .ref (q 45)), (1, .int a1)] [] (f_X4_push_nf S a1)) h
  unfold f_X4_push_nf
  refine r_aload_n (pc := 0) C dX4_push_0 0 rfl ?_
  refine xg_nf_height (pc := 1) C kw_2_64 dX4_push_1 ?_
  refine r_aload_n (pc := 4) C dX4_push_4 0 rfl ?_
  refine xg_nf_stack (pc := 5) C kw_2_63 dX4_push_5 ?_
  refine xn_nf_stack (pc := 8) C dX4_push_8 ?_
  refine r_icmp_ge 32 (pc := 9) C dX4_push_9 (by decide) ?_ ?_
  · exact r_retWV (wf := cx g q E) hR (pc := 32) dX4_push_32
  · refine r_aload_n (pc := 12) C dX4_push_12 0 rfl ?_
    refine xg_nf_stack (pc := 13) C kw_2_63 dX4_push_13 ?_
    refine r_aload_n (pc := 16) C dX4_push_16 0 rfl ?_
    refine xg_nf_height (pc := 17) C kw_2_64 dX4_push_17 ?_
    refine r_iload_n (pc := 20) C dX4_push_20 1 rfl ?_
    refine xs_nf_stack (pc := 21) C dX4_push_21 (fun S1 => ?_)
    refine r_aload_n (pc := 22) C dX4_push_22 0 rfl ?_
    refine r_dup (pc := 23) C dX4_push_23 rfl ?_
    refine xg_nf_height (pc := 24) C kw_2_64 dX4_push_24 ?_
    refine r_iconst (pc := 27) C dX4_push_27 (v := 1) (by decide) ?_
    refine r_iadd (pc := 28) C dX4_push_28 ?_
    refine xp_nf_height (pc := 29) C kw_2_64 dX4_push_29 (fun S2 => ?_)
    exact r_retWV (wf := cx g q E) hR (pc := 32) dX4_push_32
set_option maxRecDepth 100000 in
theorem w_X4_push_nf {S : CS} {a1 : Int32} {S' : CS} (h : f_X4_push_nf S a1 = some S') : gI [24] [48] S S' := by
  have hS : gI [24] [48] S S := gI_rf
  refine (?_ : jf (gI [24] [48] S) id (f_X4_push_nf S a1)) _ h
  unfold f_X4_push_nf
  refine f_ite ?_ ?_
  · exact f_some hS
  · refine f_chk (f_ltS (gI_ca hS (by decide)) (fun S1 hS1 => ?_))
    refine f_ltS (gI_ci hS1 (by decide)) (fun S2 hS2 => ?_)
    exact f_some hS2
abbrev rm_X1_ageOf : Room := { frames := 0, cells := 0, slots := 0, locals := 0 }
theorem kY_X1_ageOf : kY yX1_ageOf cX1_ageOf 2 (some .int) 1 := ⟨kw_1_3, kw_4_27, by decide, by decide, by decide +kernel⟩
def f_X1_ageOf (S : CS) (a1 : Int32) : Option (Int32) :=
  chk a1 60 (
  chk a1 60 (
  chk (S.2.1 14 a1.toNatClampNeg) 16 (
  some (((S.2.1 16 a1.toNatClampNeg) - (S.2.1 11 (S.2.1 14 a1.toNatClampNeg).toNatClampNeg)) / 365))))
set_option maxRecDepth 100000 in
set_option maxHeartbeats 4000000 in
theorem c_X1_ageOf {g : KG} {q : Nat → Nat} {E : va_W} {S : CS} {a1 : Int32} {r : Int32} (h : f_X1_ageOf S a1 = some r) : ∀ l, kM l yX1_ageOf cX1_ageOf 2 (some .int) rm_X1_ageOf g [.ref (q 3), .int a1] (cx g q E S) (cx g q E S) (some (.int r)) 0 0 := by
  refine k_open_i (own := "MarkChains$Book") (by decide) rfl (Nat.le_of_ble_eq_true rfl) (fun X C hR => ?_)
  refine (?_ : jJ X g (r : Int32) (cx g q E S) 0 0 0 [(0, .ref (q 3)), (1, .int a1)] [] (f_X1_ageOf S a1)) h
  unfold f_X1_ageOf
  refine r_aload_n (pc := 0) C dX1_ageOf_0 0 rfl ?_
  refine xg_bk_day (pc := 1) C kw_1_107 dX1_ageOf_1 ?_
  refine r_iload_n (pc := 4) C dX1_ageOf_4 1 rfl ?_
  refine xl_bk_day (pc := 5) C dX1_ageOf_5 ?_
  refine r_aload_n (pc := 6) C dX1_ageOf_6 0 rfl ?_
  refine xg_bk_athletes (pc := 7) C kw_1_98 dX1_ageOf_7 ?_
  refine xgN_pa_first (pc := 10) C knf_6 dX1_ageOf_10 ?_
  refine r_aload_n (pc := 13) C dX1_ageOf_13 0 rfl ?_
  refine xg_bk_athlete (pc := 14) C kw_1_103 dX1_ageOf_14 ?_
  refine r_iload_n (pc := 17) C dX1_ageOf_17 1 rfl ?_
  refine xl_bk_athlete (pc := 18) C dX1_ageOf_18 ?_
  refine xl_pa_first (pc := 19) C dX1_ageOf_19 ?_
  refine r_isub (pc := 20) C dX1_ageOf_20 ?_
  refine r_sipush (pc := 21) C dX1_ageOf_21 (v := 365) (by decide) ?_
  refine r_idiv (pc := 24) C dX1_ageOf_24 (by decide) ?_
  exact r_retPI hR (pc := 25) dX1_ageOf_25
abbrev rm_X1_thingOf : Room := { frames := 1, cells := 0, slots := 0, locals := 21 }
theorem kY_X1_thingOf : kY yX1_thingOf cX1_thingOf 4 (some .int) 3 := ⟨kw_1_3, kw_4_23, by decide, by decide, by decide +kernel⟩
def f_X1_thingOf (S : CS) (a1 : Int32) (a2 : Int32) (a3 : Int32) : Option (Int32) :=
  jn0 (some ((a3 >>> ((a2 - 120) &&& 31)) &&& 1)) (fun k1 =>
  (if a2 = 98 then
  chk a1 60 (
  chk (S.2.1 13 a1.toNatClampNeg) 6 (
  some (S.2.1 5 (S.2.1 13 a1.toNatClampNeg).toNatClampNeg)))
 else
  (if a2 = 100 then
  chk a1 60 (
  some (S.2.1 16 a1.toNatClampNeg))
 else
  (if a2 = 101 then
  chk a1 60 (
  some (S.2.1 13 a1.toNatClampNeg))
 else
  (if a2 = 103 then
  bp (f_X1_ageOf S a1) (fun x3 =>
  some x3)
 else
  (if a2 = 104 then
  chk a1 60 (
  chk (S.2.1 15 a1.toNatClampNeg) 8 (
  some (S.2.1 9 (S.2.1 15 a1.toNatClampNeg).toNatClampNeg)))
 else
  (if a2 = 108 then
  chk a1 60 (
  chk (S.2.1 13 a1.toNatClampNeg) 6 (
  some (S.2.1 6 (S.2.1 13 a1.toNatClampNeg).toNatClampNeg)))
 else
  (if a2 = 109 then
  chk a1 60 (
  some (S.2.1 17 a1.toNatClampNeg))
 else
  (if a2 = 115 then
  chk a1 60 (
  some (S.2.1 20 a1.toNatClampNeg))
 else
  (if a2 = 118 then
  chk a1 60 (
  some (S.2.1 18 a1.toNatClampNeg))
 else
  (if a2 = 119 then
  chk a1 60 (
  some (S.2.1 19 a1.toNatClampNeg))
 else
  k1)))))))))))
set_option maxRecDepth 100000 in
set_option maxHeartbeats 4000000 in
theorem c_X1_thingOf {g : KG} {q : Nat → Nat} {E : va_W} {S : CS} {a1 : Int32} {a2 : Int32} {a3 : Int32} {r : Int32} (h : f_X1_thingOf S a1 a2 a3 = some r) : ∀ l, kM l yX1_thingOf cX1_thingOf 4 (some .int) rm_X1_thingOf g [.ref (q 3), .int a1, .int a2, .int a3] (cx g q E S) (cx g q E S) (some (.int r)) 0 0 := by
  refine k_open_i (own := "MarkChains$Book") (by decide) rfl (Nat.le_of_ble_eq_true rfl) (fun X C hR => ?_)
  refine (?_ : jJ X g (r : Int32) (cx g q E S) 0 0 0 [(0, .ref (q 3)), (1, .int a1), (2, .int a2), (3, .int a3)] [] (f_X1_thingOf S a1 a2 a3)) h
  unfold f_X1_thingOf
  refine r_iload_n (pc := 0) C dX1_thingOf_0 2 rfl ?_
  refine r_jn0 197 (cx g q E S) ([(2, .int a2), (3, .int a3)]) ([]) ?_ (fun k1 hk2 => ?_)
  · refine r_iload_n (pc := 197) C dX1_thingOf_197 1 rfl ?_
    refine r_iload_n (pc := 198) C dX1_thingOf_198 0 rfl ?_
    refine r_bipush (pc := 199) C dX1_thingOf_199 (v := 120) (by decide) ?_
    refine r_isub (pc := 201) C dX1_thingOf_201 ?_
    refine r_ishr (pc := 202) C dX1_thingOf_202 ?_
    refine r_iconst (pc := 203) C dX1_thingOf_203 (v := 1) (by decide) ?_
    refine r_iand (pc := 204) C dX1_thingOf_204 ?_
    exact r_retPI hR (pc := 205) dX1_thingOf_205
  · refine r_case (fun h1_0 => ?_) (fun h1_0 => ?_)
    · refine r_tabIn (off := 181) 182 (pc := 1) C dX1_thingOf_1 h1_0 (by decide) (by decide) (by decide) (by decide) ?_
      refine r_aload_n (pc := 182) C dX1_thingOf_182 0 rfl ?_
      refine xg_bk_events (pc := 183) C kw_1_92 dX1_thingOf_183 ?_
      refine xgN_pe_first (pc := 186) C knf_6 dX1_thingOf_186 ?_
      refine r_aload_n (pc := 189) C dX1_thingOf_189 0 rfl ?_
      refine xg_bk_event (pc := 190) C kw_1_101 dX1_thingOf_190 ?_
      refine r_iload_n (pc := 193) C dX1_thingOf_193 1 rfl ?_
      refine xl_bk_event (pc := 194) C dX1_thingOf_194 ?_
      refine xl_pe_first (pc := 195) C dX1_thingOf_195 ?_
      exact r_retPI hR (pc := 196) dX1_thingOf_196
    · refine r_case (fun h1_1 => ?_) (fun h1_1 => ?_)
      · refine r_tabIn (off := 152) 153 (pc := 1) C dX1_thingOf_1 h1_1 (by decide) (by decide) (by decide) (by decide) ?_
        refine r_aload_n (pc := 153) C dX1_thingOf_153 0 rfl ?_
        refine xg_bk_day (pc := 154) C kw_1_107 dX1_thingOf_154 ?_
        refine r_iload_n (pc := 157) C dX1_thingOf_157 1 rfl ?_
        refine xl_bk_day (pc := 158) C dX1_thingOf_158 ?_
        exact r_retPI hR (pc := 159) dX1_thingOf_159
      · refine r_case (fun h1_2 => ?_) (fun h1_2 => ?_)
        · refine r_tabIn (off := 145) 146 (pc := 1) C dX1_thingOf_1 h1_2 (by decide) (by decide) (by decide) (by decide) ?_
          refine r_aload_n (pc := 146) C dX1_thingOf_146 0 rfl ?_
          refine xg_bk_event (pc := 147) C kw_1_101 dX1_thingOf_147 ?_
          refine r_iload_n (pc := 150) C dX1_thingOf_150 1 rfl ?_
          refine xl_bk_event (pc := 151) C dX1_thingOf_151 ?_
          exact r_retPI hR (pc := 152) dX1_thingOf_152
        · refine r_case (fun h1_3 => ?_) (fun h1_3 => ?_)
          · refine r_tabIn (off := 139) 140 (pc := 1) C dX1_thingOf_1 h1_3 (by decide) (by decide) (by decide) (by decide) ?_
            refine r_aload_n (pc := 140) C dX1_thingOf_140 0 rfl ?_
            refine r_iload_n (pc := 141) C dX1_thingOf_141 1 rfl ?_
            refine r_cVpi (As := [.int a1]) (st := []) (pc := 142) C (fun _ h => c_X1_ageOf h) kY_X1_ageOf kw_4_25 kw_4_26 kw_4_24 rfl ⟨Nat.le_of_ble_eq_true rfl, Nat.le_of_ble_eq_true rfl⟩ rfl rfl ⟨Nat.zero_le _, Nat.zero_le _⟩ 3 rfl rfl rfl (Nat.le_of_ble_eq_true rfl) dX1_thingOf_142 (fun x3 => ?_)
            exact r_retPI hR (pc := 145) dX1_thingOf_145
          · refine r_case (fun h1_4 => ?_) (fun h1_4 => ?_)
            · refine r_tabIn (off := 124) 125 (pc := 1) C dX1_thingOf_1 h1_4 (by decide) (by decide) (by decide) (by decide) ?_
              refine r_aload_n (pc := 125) C dX1_thingOf_125 0 rfl ?_
              refine xg_bk_places (pc := 126) C kw_1_95 dX1_thingOf_126 ?_
              refine xgN_pp_second (pc := 129) C knf_8 dX1_thingOf_129 ?_
              refine r_aload_n (pc := 132) C dX1_thingOf_132 0 rfl ?_
              refine xg_bk_place (pc := 133) C kw_1_106 dX1_thingOf_133 ?_
              refine r_iload_n (pc := 136) C dX1_thingOf_136 1 rfl ?_
              refine xl_bk_place (pc := 137) C dX1_thingOf_137 ?_
              refine xl_pp_second (pc := 138) C dX1_thingOf_138 ?_
              exact r_retPI hR (pc := 139) dX1_thingOf_139
            · refine r_case (fun h1_5 => ?_) (fun h1_5 => ?_)
              · refine r_tabIn (off := 166) 167 (pc := 1) C dX1_thingOf_1 h1_5 (by decide) (by decide) (by decide) (by decide) ?_
                refine r_aload_n (pc := 167) C dX1_thingOf_167 0 rfl ?_
                refine xg_bk_events (pc := 168) C kw_1_92 dX1_thingOf_168 ?_
                refine xgN_pe_second (pc := 171) C knf_8 dX1_thingOf_171 ?_
                refine r_aload_n (pc := 174) C dX1_thingOf_174 0 rfl ?_
                refine xg_bk_event (pc := 175) C kw_1_101 dX1_thingOf_175 ?_
                refine r_iload_n (pc := 178) C dX1_thingOf_178 1 rfl ?_
                refine xl_bk_event (pc := 179) C dX1_thingOf_179 ?_
                refine xl_pe_second (pc := 180) C dX1_thingOf_180 ?_
                exact r_retPI hR (pc := 181) dX1_thingOf_181
              · refine r_case (fun h1_6 => ?_) (fun h1_6 => ?_)
                · refine r_tabIn (off := 159) 160 (pc := 1) C dX1_thingOf_1 h1_6 (by decide) (by decide) (by decide) (by decide) ?_
                  refine r_aload_n (pc := 160) C dX1_thingOf_160 0 rfl ?_
                  refine xg_bk_minute (pc := 161) C kw_1_110 dX1_thingOf_161 ?_
                  refine r_iload_n (pc := 164) C dX1_thingOf_164 1 rfl ?_
                  refine xl_bk_minute (pc := 165) C dX1_thingOf_165 ?_
                  exact r_retPI hR (pc := 166) dX1_thingOf_166
                · refine r_case (fun h1_7 => ?_) (fun h1_7 => ?_)
                  · refine r_tabIn (off := 117) 118 (pc := 1) C dX1_thingOf_1 h1_7 (by decide) (by decide) (by decide) (by decide) ?_
                    refine r_aload_n (pc := 118) C dX1_thingOf_118 0 rfl ?_
                    refine xg_bk_shoe (pc := 119) C kw_1_116 dX1_thingOf_119 ?_
                    refine r_iload_n (pc := 122) C dX1_thingOf_122 1 rfl ?_
                    refine xl_bk_shoe (pc := 123) C dX1_thingOf_123 ?_
                    exact r_retPI hR (pc := 124) dX1_thingOf_124
                  · refine r_case (fun h1_8 => ?_) (fun h1_8 => ?_)
                    · refine r_tabIn (off := 103) 104 (pc := 1) C dX1_thingOf_1 h1_8 (by decide) (by decide) (by decide) (by decide) ?_
                      refine r_aload_n (pc := 104) C dX1_thingOf_104 0 rfl ?_
                      refine xg_bk_value (pc := 105) C kw_1_112 dX1_thingOf_105 ?_
                      refine r_iload_n (pc := 108) C dX1_thingOf_108 1 rfl ?_
                      refine xl_bk_value (pc := 109) C dX1_thingOf_109 ?_
                      exact r_retPI hR (pc := 110) dX1_thingOf_110
                    · refine r_case (fun h1_9 => ?_) (fun h1_9 => ?_)
                      · refine r_tabIn (off := 110) 111 (pc := 1) C dX1_thingOf_1 h1_9 (by decide) (by decide) (by decide) (by decide) ?_
                        refine r_aload_n (pc := 111) C dX1_thingOf_111 0 rfl ?_
                        refine xg_bk_wind (pc := 112) C kw_1_115 dX1_thingOf_112 ?_
                        refine r_iload_n (pc := 115) C dX1_thingOf_115 1 rfl ?_
                        refine xl_bk_wind (pc := 116) C dX1_thingOf_116 ?_
                        exact r_retPI hR (pc := 117) dX1_thingOf_117
                      · refine r_tabDef 197 (pc := 1) C dX1_thingOf_1 (by decide) (fun j hj => ?_) (by decide) ?_
                        · match j, hj with
                          | 0, _ => exact Or.inr (lv_neT h1_0 (by decide))
                          | 1, _ => exact Or.inl rfl
                          | 2, _ => exact Or.inr (lv_neT h1_1 (by decide))
                          | 3, _ => exact Or.inr (lv_neT h1_2 (by decide))
                          | 4, _ => exact Or.inl rfl
                          | 5, _ => exact Or.inr (lv_neT h1_3 (by decide))
                          | 6, _ => exact Or.inr (lv_neT h1_4 (by decide))
                          | 7, _ => exact Or.inl rfl
                          | 8, _ => exact Or.inl rfl
                          | 9, _ => exact Or.inl rfl
                          | 10, _ => exact Or.inr (lv_neT h1_5 (by decide))
                          | 11, _ => exact Or.inr (lv_neT h1_6 (by decide))
                          | 12, _ => exact Or.inl rfl
                          | 13, _ => exact Or.inl rfl
                          | 14, _ => exact Or.inl rfl
                          | 15, _ => exact Or.inl rfl
                          | 16, _ => exact Or.inl rfl
                          | 17, _ => exact Or.inr (lv_neT h1_7 (by decide))
                          | 18, _ => exact Or.inl rfl
                          | 19, _ => exact Or.inl rfl
                          | 20, _ => exact Or.inr (lv_neT h1_8 (by decide))
                          | 21, _ => exact Or.inr (lv_neT h1_9 (by decide))
                          | j + 22, hj => exact absurd hj (by simp)
                        · refine r_sub (lv' := [(2, .int a2), (3, .int a3)]) [2, 3] rfl ?_
                          exact hk2
abbrev rm_X4_valueOf_nf : Room := { frames := 2, cells := 0, slots := 0, locals := 44 }
theorem kY_X4_valueOf : kY yX4_valueOf cX4_valueOf 8 (some .int) 4 := ⟨kw_1_12, kw_4_15, by decide, by decide, by decide +kernel⟩
def L_X4_valueOf_nf_38 (c1 : Int32) (c3 : Int32) (c4 : Int32) (k7 : CS → Option (Int32 × CS)) : Nat → CS → Int32 → Option (Int32 × CS) := lo2 fun rec5 S4 x3 =>
  chk c1 (S4.2.2 47) (
  (if (S4.2.1 47 c1.toNatClampNeg) ≤ x3 then
  k7 S4
 else
  (if (nI (S4.2.2 46)) ≤ x3 then
  k7 S4
 else
  chk x3 (S4.2.2 46) (
  lt (-(S4.2.1 46 x3.toNatClampNeg)) fun x9 =>
  (if 0 < x9 then
  jn0 ((if x9 = 33 then
  bw (f_X4_pop_nf S4) (fun x17 S18 =>
  (if x17 = 0 then
  bp (f_X4_push_nf S18 1) (fun S21 =>
  lt (x3 + 1) fun x22 =>
  rec5 S21 x22)
 else
  bp (f_X4_push_nf S18 0) (fun S19 =>
  lt (x3 + 1) fun x20 =>
  rec5 S19 x20)))
 else
  bw (f_X4_pop_nf S4) (fun x10 S11 =>
  bw (f_X4_pop_nf S11) (fun x12 S13 =>
  bp (f_X4_joined x9 x12 x10) (fun x14 =>
  bp (f_X4_push_nf S13 x14) (fun S15 =>
  lt (x3 + 1) fun x16 =>
  rec5 S15 x16)))))) (fun k23 =>
  (if x9 < 97 then
  k23
 else
  (if 122 < x9 then
  k23
 else
  bp (f_X1_thingOf S4 c3 x9 c4) (fun x25 =>
  bp (f_X4_push_nf S4 x25) (fun S26 =>
  lt (x3 + 1) fun x27 =>
  rec5 S26 x27)))))
 else
  chk x3 (S4.2.2 46) (
  bp (f_X4_push_nf S4 (S4.2.1 46 x3.toNatClampNeg)) (fun S28 =>
  lt (x3 + 1) fun x29 =>
  rec5 S28 x29)))))))
set_option maxRecDepth 100000 in
set_option maxHeartbeats 4000000 in
theorem l_X4_valueOf_nf_38 {X : KX} {g : KG} {q : Nat → Nat} {E : va_W} {res : Int32 × CS} (C : kC X g cX4_valueOf "MarkChains$Formula" rm_X4_valueOf_nf 8) (hR : ∀ (pc : Nat) (lv : List (Nat × Value)), decode cX4_valueOf pc = .ok (.ireturn, 1) → jW X g (cx g q E res.2) 0 0 pc lv [.int res.1]) (c1 : Int32) (c3 : Int32) (c4 : Int32) (k7 : CS → Option (Int32 × CS)) (hk8 : ∀ (S30 : CS), jJ X g res (cx g q E S30) 0 0 171 [(0, .ref (q 45))] [] (k7 S30)) : ∀ (n : Nat) (S4 : CS) (x3 : Int32), jJ X g res (cx g q E S4) 0 0 38 [(0, .ref (q 45)), (1, .int c1), (2, .ref (q 3)), (3, .int c3), (4, .int c4), (5, .int x3)] [] (L_X4_valueOf_nf_38 c1 c3 c4 k7 n S4 x3) := by
  refine r_lo2 (fun S4 x3 => cx g q E S4) (fun S4 x3 => [(0, .ref (q 45)), (1, .int c1), (2, .ref (q 3)), (3, .int c3), (4, .int c4), (5, .int x3)]) (fun rec5 ih6 S4 x3 => ?_)
  refine r_iload (pc := 38) C dX4_valueOf_38 5 rfl ?_
  refine r_aload_n (pc := 40) C dX4_valueOf_40 0 rfl ?_
  refine xg_nf_ends (pc := 41) C kw_2_62 dX4_valueOf_41 ?_
  refine r_iload_n (pc := 44) C dX4_valueOf_44 1 rfl ?_
  refine xl_nf_ends (pc := 45) C dX4_valueOf_45 ?_
  refine r_icmp_ge 171 (pc := 46) C dX4_valueOf_46 (by decide) ?_ ?_
  · refine r_sub (lv' := [(0, .ref (q 45))]) [0] rfl ?_
    exact hk8 S4
  · refine r_iload (pc := 49) C dX4_valueOf_49 5 rfl ?_
    refine r_aload_n (pc := 51) C dX4_valueOf_51 0 rfl ?_
    refine xg_nf_code (pc := 52) C kw_2_61 dX4_valueOf_52 ?_
    refine xn_nf_code (pc := 55) C dX4_valueOf_55 ?_
    refine r_icmp_ge 171 (pc := 56) C dX4_valueOf_56 (by decide) ?_ ?_
    · refine r_sub (lv' := [(0, .ref (q 45))]) [0] rfl ?_
      exact hk8 S4
    · refine r_aload_n (pc := 59) C dX4_valueOf_59 0 rfl ?_
      refine xg_nf_code (pc := 60) C kw_2_61 dX4_valueOf_60 ?_
      refine r_iload (pc := 63) C dX4_valueOf_63 5 rfl ?_
      refine xl_nf_code (pc := 65) C dX4_valueOf_65 ?_
      refine r_ineg (pc := 66) C dX4_valueOf_66 ?_
      refine r_istoreV (pc := 67) C dX4_valueOf_67 (lv' := fun x9 => [(0, .ref (q 45)), (1, .int c1), (2, .ref (q 3)), (3, .int c3), (4, .int c4), (5, .int x3), (6, .int x9)]) (by decide) [1, 2, 3, 4, 5, 6, 0] (fun _ => rfl) (fun x9 => ?_)
      refine r_iload (pc := 69) C dX4_valueOf_69 6 rfl ?_
      refine r_if_gt 88 (pc := 71) C dX4_valueOf_71 (by decide) ?_ ?_
      · refine r_iload (pc := 88) C dX4_valueOf_88 6 rfl ?_
        refine r_bipush (pc := 90) C dX4_valueOf_90 (v := 97) (by decide) ?_
        refine r_jn0 118 (cx g q E S4) ([(0, .ref (q 45)), (1, .int c1), (2, .ref (q 3)), (3, .int c3), (4, .int c4), (5, .int x3), (6, .int x9)]) ([]) ?_ (fun k23 hk24 => ?_)
        · refine r_iload (pc := 118) C dX4_valueOf_118 6 rfl ?_
          refine r_bipush (pc := 120) C dX4_valueOf_120 (v := 33) (by decide) ?_
          refine r_icmp_ne 144 (pc := 122) C dX4_valueOf_122 (by decide) ?_ ?_
          · refine r_aload_n (pc := 144) C dX4_valueOf_144 0 rfl ?_
            refine r_cVwi (As := []) (st := []) (wf := cx g q E) (pc := 145) C (fun _ _ h => c_X4_pop_nf h) kY_X4_pop kw_4_30 kw_0_22 kw_4_28 rfl ⟨Nat.le_of_ble_eq_true rfl, Nat.le_of_ble_eq_true rfl⟩ rfl rfl ⟨Nat.zero_le _, Nat.zero_le _⟩ 44 rfl rfl rfl (Nat.le_of_ble_eq_true rfl) dX4_valueOf_145 (fun x10 S11 => ?_)
            refine r_istore (pc := 148) C dX4_valueOf_148 (lv' := [(0, .ref (q 45)), (1, .int c1), (2, .ref (q 3)), (3, .int c3), (4, .int c4), (5, .int x3), (6, .int x9), (7, .int x10)]) (by decide) [1, 2, 3, 4, 5, 6, 7, 0] rfl ?_
            refine r_aload_n (pc := 150) C dX4_valueOf_150 0 rfl ?_
            refine r_iload (pc := 151) C dX4_valueOf_151 6 rfl ?_
            refine r_aload_n (pc := 153) C dX4_valueOf_153 0 rfl ?_
            refine r_cVwi (As := []) (st := [.int x9, .ref (q 45)]) (wf := cx g q E) (pc := 154) C (fun _ _ h => c_X4_pop_nf h) kY_X4_pop kw_4_30 kw_0_22 kw_4_28 rfl ⟨Nat.le_of_ble_eq_true rfl, Nat.le_of_ble_eq_true rfl⟩ rfl rfl ⟨Nat.zero_le _, Nat.zero_le _⟩ 44 rfl rfl rfl (Nat.le_of_ble_eq_true rfl) dX4_valueOf_154 (fun x12 S13 => ?_)
            refine r_iload (pc := 157) C dX4_valueOf_157 7 rfl ?_
            refine r_cSpi (As := [.int x9, .int x12, .int x10]) (st := [.ref (q 45)]) (pc := 159) C (fun _ h => c_X4_joined h) kY_X4_joined kw_4_33 kw_4_32 rfl ⟨Nat.le_of_ble_eq_true rfl, Nat.le_of_ble_eq_true rfl⟩ rfl rfl ⟨Nat.zero_le _, Nat.zero_le _⟩ rfl (Nat.le_of_ble_eq_true rfl) dX4_valueOf_159 (fun x14 => ?_)
            refine r_cVwv (As := [.int x14]) (st := []) (wf := cx g q E) (pc := 162) C (fun _ h => c_X4_push_nf h) kY_X4_push kw_4_18 kw_0_21 kw_4_16 rfl ⟨Nat.le_of_ble_eq_true rfl, Nat.le_of_ble_eq_true rfl⟩ rfl rfl ⟨Nat.zero_le _, Nat.zero_le _⟩ 44 rfl rfl rfl (Nat.le_of_ble_eq_true rfl) dX4_valueOf_162 (fun S15 => ?_)
            refine r_iinc (pc := 165) C dX4_valueOf_165 (v := 1) (lv' := fun x16 => [(0, .ref (q 45)), (1, .int c1), (2, .ref (q 3)), (3, .int c3), (4, .int c4), (5, .int x16), (6, .int x9), (7, .int x10)]) 5 rfl (by decide) (by decide) [1, 2, 3, 4, 5, 0, 6, 7] (fun _ => rfl) (fun x16 => ?_)
            refine r_goto 38 (pc := 168) C dX4_valueOf_168 (by decide) ?_
            refine r_sub (lv' := [(0, .ref (q 45)), (1, .int c1), (2, .ref (q 3)), (3, .int c3), (4, .int c4), (5, .int x16)]) [0, 1, 2, 3, 4, 5] rfl ?_
            exact ih6 S15 x16
          · refine r_aload_n (pc := 125) C dX4_valueOf_125 0 rfl ?_
            refine r_aload_n (pc := 126) C dX4_valueOf_126 0 rfl ?_
            refine r_cVwi (As := []) (st := [.ref (q 45)]) (wf := cx g q E) (pc := 127) C (fun _ _ h => c_X4_pop_nf h) kY_X4_pop kw_4_30 kw_0_22 kw_4_28 rfl ⟨Nat.le_of_ble_eq_true rfl, Nat.le_of_ble_eq_true rfl⟩ rfl rfl ⟨Nat.zero_le _, Nat.zero_le _⟩ 44 rfl rfl rfl (Nat.le_of_ble_eq_true rfl) dX4_valueOf_127 (fun x17 S18 => ?_)
            refine r_if_ne 137 (pc := 130) C dX4_valueOf_130 (by decide) ?_ ?_
            · refine r_iconst (pc := 137) C dX4_valueOf_137 (v := 0) (by decide) ?_
              refine r_cVwv (As := [.int 0]) (st := []) (wf := cx g q E) (pc := 138) C (fun _ h => c_X4_push_nf h) kY_X4_push kw_4_18 kw_0_21 kw_4_16 rfl ⟨Nat.le_of_ble_eq_true rfl, Nat.le_of_ble_eq_true rfl⟩ rfl rfl ⟨Nat.zero_le _, Nat.zero_le _⟩ 44 rfl rfl rfl (Nat.le_of_ble_eq_true rfl) dX4_valueOf_138 (fun S19 => ?_)
              refine r_goto 165 (pc := 141) C dX4_valueOf_141 (by decide) ?_
              refine r_iinc (pc := 165) C dX4_valueOf_165 (v := 1) (lv' := fun x20 => [(0, .ref (q 45)), (1, .int c1), (2, .ref (q 3)), (3, .int c3), (4, .int c4), (5, .int x20), (6, .int x9)]) 5 rfl (by decide) (by decide) [1, 2, 3, 4, 5, 0, 6] (fun _ => rfl) (fun x20 => ?_)
              refine r_goto 38 (pc := 168) C dX4_valueOf_168 (by decide) ?_
              refine r_sub (lv' := [(0, .ref (q 45)), (1, .int c1), (2, .ref (q 3)), (3, .int c3), (4, .int c4), (5, .int x20)]) [0, 1, 2, 3, 4, 5] rfl ?_
              exact ih6 S19 x20
            · refine r_iconst (pc := 133) C dX4_valueOf_133 (v := 1) (by decide) ?_
              refine r_goto 138 (pc := 134) C dX4_valueOf_134 (by decide) ?_
              refine r_cVwv (As := [.int 1]) (st := []) (wf := cx g q E) (pc := 138) C (fun _ h => c_X4_push_nf h) kY_X4_push kw_4_18 kw_0_21 kw_4_16 rfl ⟨Nat.le_of_ble_eq_true rfl, Nat.le_of_ble_eq_true rfl⟩ rfl rfl ⟨Nat.zero_le _, Nat.zero_le _⟩ 44 rfl rfl rfl (Nat.le_of_ble_eq_true rfl) dX4_valueOf_138 (fun S21 => ?_)
              refine r_goto 165 (pc := 141) C dX4_valueOf_141 (by decide) ?_
              refine r_iinc (pc := 165) C dX4_valueOf_165 (v := 1) (lv' := fun x22 => [(0, .ref (q 45)), (1, .int c1), (2, .ref (q 3)), (3, .int c3), (4, .int c4), (5, .int x22), (6, .int x9)]) 5 rfl (by decide) (by decide) [1, 2, 3, 4, 5, 0, 6] (fun _ => rfl) (fun x22 => ?_)
              refine r_goto 38 (pc := 168) C dX4_valueOf_168 (by decide) ?_
              refine r_sub (lv' := [(0, .ref (q 45)), (1, .int c1), (2, .ref (q 3)), (3, .int c3), (4, .int c4), (5, .int x22)]) [0, 1, 2, 3, 4, 5] rfl ?_
              exact ih6 S21 x22
        · refine r_icmp_lt 118 (pc := 92) C dX4_valueOf_92 (by decide) ?_ ?_
          · exact hk24
          · refine r_iload (pc := 95) C dX4_valueOf_95 6 rfl ?_
            refine r_bipush (pc := 97) C dX4_valueOf_97 (v := 122) (by decide) ?_
            refine r_icmp_gt 118 (pc := 99) C dX4_valueOf_99 (by decide) ?_ ?_
            · exact hk24
            · refine r_aload_n (pc := 102) C dX4_valueOf_102 0 rfl ?_
              refine r_aload_n (pc := 103) C dX4_valueOf_103 2 rfl ?_
              refine r_iload_n (pc := 104) C dX4_valueOf_104 3 rfl ?_
              refine r_iload (pc := 105) C dX4_valueOf_105 6 rfl ?_
              refine r_iload (pc := 107) C dX4_valueOf_107 4 rfl ?_
              refine r_cVpi (As := [.int c3, .int x9, .int c4]) (st := [.ref (q 45)]) (pc := 109) C (fun _ h => c_X1_thingOf h) kY_X1_thingOf kw_4_21 kw_4_22 kw_4_20 rfl ⟨Nat.le_of_ble_eq_true rfl, Nat.le_of_ble_eq_true rfl⟩ rfl rfl ⟨Nat.zero_le _, Nat.zero_le _⟩ 3 rfl rfl rfl (Nat.le_of_ble_eq_true rfl) dX4_valueOf_109 (fun x25 => ?_)
              refine r_cVwv (As := [.int x25]) (st := []) (wf := cx g q E) (pc := 112) C (fun _ h => c_X4_push_nf h) kY_X4_push kw_4_18 kw_0_21 kw_4_16 rfl ⟨Nat.le_of_ble_eq_true rfl, Nat.le_of_ble_eq_true rfl⟩ rfl rfl ⟨Nat.zero_le _, Nat.zero_le _⟩ 44 rfl rfl rfl (Nat.le_of_ble_eq_true rfl) dX4_valueOf_112 (fun S26 => ?_)
              refine r_goto 165 (pc := 115) C dX4_valueOf_115 (by decide) ?_
              refine r_iinc (pc := 165) C dX4_valueOf_165 (v := 1) (lv' := fun x27 => [(0, .ref (q 45)), (1, .int c1), (2, .ref (q 3)), (3, .int c3), (4, .int c4), (5, .int x27), (6, .int x9)]) 5 rfl (by decide) (by decide) [1, 2, 3, 4, 5, 0, 6] (fun _ => rfl) (fun x27 => ?_)
              refine r_goto 38 (pc := 168) C dX4_valueOf_168 (by decide) ?_
              refine r_sub (lv' := [(0, .ref (q 45)), (1, .int c1), (2, .ref (q 3)), (3, .int c3), (4, .int c4), (5, .int x27)]) [0, 1, 2, 3, 4, 5] rfl ?_
              exact ih6 S26 x27
      · refine r_aload_n (pc := 74) C dX4_valueOf_74 0 rfl ?_
        refine r_aload_n (pc := 75) C dX4_valueOf_75 0 rfl ?_
        refine xg_nf_code (pc := 76) C kw_2_61 dX4_valueOf_76 ?_
        refine r_iload (pc := 79) C dX4_valueOf_79 5 rfl ?_
        refine xl_nf_code (pc := 81) C dX4_valueOf_81 ?_
        refine r_cVwv (As := [.int (S4.2.1 46 x3.toNatClampNeg)]) (st := []) (wf := cx g q E) (pc := 82) C (fun _ h => c_X4_push_nf h) kY_X4_push kw_4_18 kw_0_21 kw_4_16 rfl ⟨Nat.le_of_ble_eq_true rfl, Nat.le_of_ble_eq_true rfl⟩ rfl rfl ⟨Nat.zero_le _, Nat.zero_le _⟩ 44 rfl rfl rfl (Nat.le_of_ble_eq_true rfl) dX4_valueOf_82 (fun S28 => ?_)
        refine r_goto 165 (pc := 85) C dX4_valueOf_85 (by decide) ?_
        refine r_iinc (pc := 165) C dX4_valueOf_165 (v := 1) (lv' := fun x29 => [(0, .ref (q 45)), (1, .int c1), (2, .ref (q 3)), (3, .int c3), (4, .int c4), (5, .int x29), (6, .int x9)]) 5 rfl (by decide) (by decide) [1, 2, 3, 4, 5, 0, 6] (fun _ => rfl) (fun x29 => ?_)
        refine r_goto 38 (pc := 168) C dX4_valueOf_168 (by decide) ?_
        refine r_sub (lv' := [(0, .ref (q 45)), (1, .int c1), (2, .ref (q 3)), (3, .int c3), (4, .int c4), (5, .int x29)]) [0, 1, 2, 3, 4, 5] rfl ?_
        exact ih6 S28 x29
set_option maxRecDepth 100000 in
theorem v_X4_valueOf_nf_38 {S0 : CS} {c1 : Int32} {c3 : Int32} {c4 : Int32} {k7 : CS → Option (Int32 × CS)} (hk8 : ∀ (S30 : CS), (gI [24] [48] S0) S30 → jf (gI [24] [48] S0) Prod.snd (k7 S30)) : ∀ (n : Nat) (S4 : CS) (x3 : Int32), (gI [24] [48] S0) S4 → jf (gI [24] [48] S0) Prod.snd (L_X4_valueOf_nf_38 c1 c3 c4 k7 n S4 x3) := by
  refine f_lo2 (I := (gI [24] [48] S0)) (fun S4 x3 => S4) (fun rec5 ih6 S4 x3 hS4 => ?_)
  refine f_chk ?_
  refine f_ite ?_ ?_
  · exact hk8 S4 hS4
  · refine f_ite ?_ ?_
    · exact hk8 S4 hS4
    · refine f_chk ?_
      refine f_lt (fun x9 => ?_)
      refine f_ite ?_ ?_
      · refine f_jm0 hS4 (fun  hS4 => ?_) (fun k23 hk24 => ?_)
        · refine f_ite ?_ ?_
          · refine f_bwS (fun _ _ h => gI_tr hS4 (w_X4_pop_nf h) (by decide) (by decide)) (fun x17 S18 hS18 => ?_)
            refine f_ite ?_ ?_
            · refine f_bpS (fun _ h => gI_tr hS18 (w_X4_push_nf h) (by decide) (by decide)) (fun S21 hS21 => ?_)
              refine f_lt (fun x22 => ?_)
              exact ih6 S21 x22 hS21
            · refine f_bpS (fun _ h => gI_tr hS18 (w_X4_push_nf h) (by decide) (by decide)) (fun S19 hS19 => ?_)
              refine f_lt (fun x20 => ?_)
              exact ih6 S19 x20 hS19
          · refine f_bwS (fun _ _ h => gI_tr hS4 (w_X4_pop_nf h) (by decide) (by decide)) (fun x10 S11 hS11 => ?_)
            refine f_bwS (fun _ _ h => gI_tr hS11 (w_X4_pop_nf h) (by decide) (by decide)) (fun x12 S13 hS13 => ?_)
            refine f_bp (fun x14 => ?_)
            refine f_bpS (fun _ h => gI_tr hS13 (w_X4_push_nf h) (by decide) (by decide)) (fun S15 hS15 => ?_)
            refine f_lt (fun x16 => ?_)
            exact ih6 S15 x16 hS15
        · refine f_ite ?_ ?_
          · exact hk24 hS4
          · refine f_ite ?_ ?_
            · exact hk24 hS4
            · refine f_bp (fun x25 => ?_)
              refine f_bpS (fun _ h => gI_tr hS4 (w_X4_push_nf h) (by decide) (by decide)) (fun S26 hS26 => ?_)
              refine f_lt (fun x27 => ?_)
              exact ih6 S26 x27 hS26
      · refine f_chk ?_
        refine f_bpS (fun _ h => gI_tr hS4 (w_X4_push_nf h) (by decide) (by decide)) (fun S28 hS28 => ?_)
        refine f_lt (fun x29 => ?_)
        exact ih6 S28 x29 hS28
def f_X4_valueOf_nf (S : CS) (a1 : Int32) (a3 : Int32) (a4 : Int32) : Option (Int32 × CS) :=
  (if a1 < 0 then
  some (0, S)
 else
  (if a1 < (nI (S.2.2 47)) then
  lt (ci S 24 0) fun S1 =>
  jn1 (fun (x2 : Int32) =>
  L_X4_valueOf_nf_38 a1 a3 a4 (fun S31 =>
  bw (f_X4_pop_nf S31) (fun x32 S33 =>
  some (x32, S33))) FU S1 x2) (fun k34 =>
  (if a1 = 0 then
  k34 0
 else
  chk (a1 - 1) (S1.2.2 47) (
  k34 (S1.2.1 47 (a1 - 1).toNatClampNeg))))
 else
  some (0, S)))
set_option maxRecDepth 100000 in
set_option maxHeartbeats 4000000 in
theorem c_X4_valueOf_nf {g : KG} {q : Nat → Nat} {E : va_W} {S : CS} {a1 : Int32} {a3 : Int32} {a4 : Int32} {r : Int32} {S' : CS} (h : f_X4_valueOf_nf S a1 a3 a4 = some (r, S')) : ∀ l, kM l yX4_valueOf cX4_valueOf 8 (some .int) rm_X4_valueOf_nf g [.ref (q 45), .int a1, .ref (q 3), .int a3, .int a4] (cx g q E S) (cx g q E S') (some (.int r)) 0 0 := by
  refine k_open_i (own := "MarkChains$Formula") (by decide) rfl (Nat.le_of_ble_eq_true rfl) (fun X C hR => ?_)
  refine (?_ : jJ X g ((r, S') : Int32 × CS) (cx g q E S) 0 0 0 [(0, .ref (q 45)), (1, .int a1), (2, .ref (q 3)), (3, .int a3), (4, .int a4)] [] (f_X4_valueOf_nf S a1 a3 a4)) h
  unfold f_X4_valueOf_nf
  refine r_iload_n (pc := 0) C dX4_valueOf_0 1 rfl ?_
  refine r_if_lt 13 (pc := 1) C dX4_valueOf_1 (by decide) ?_ ?_
  · refine r_iconst (pc := 13) C dX4_valueOf_13 (v := 0) (by decide) ?_
    exact r_retWI (wf := cx g q E) hR (pc := 14) dX4_valueOf_14
  · refine r_iload_n (pc := 4) C dX4_valueOf_4 1 rfl ?_
    refine r_aload_n (pc := 5) C dX4_valueOf_5 0 rfl ?_
    refine xg_nf_ends (pc := 6) C kw_2_62 dX4_valueOf_6 ?_
    refine xn_nf_ends (pc := 9) C dX4_valueOf_9 ?_
    refine r_icmp_lt 15 (pc := 10) C dX4_valueOf_10 (by decide) ?_ ?_
    · refine r_aload_n (pc := 15) C dX4_valueOf_15 0 rfl ?_
      refine r_iconst (pc := 16) C dX4_valueOf_16 (v := 0) (by decide) ?_
      refine xp_nf_height (pc := 17) C kw_2_64 dX4_valueOf_17 (fun S1 => ?_)
      refine r_iload_n (pc := 20) C dX4_valueOf_20 1 rfl ?_
      refine r_jn1 36 (fun (x2 : Int32) => cx g q E S1) (fun (x2 : Int32) => [(0, .ref (q 45)), (1, .int a1), (2, .ref (q 3)), (3, .int a3), (4, .int a4)]) (fun (x2 : Int32) => [.int x2]) (fun x2 => ?_) (fun k34 hk35 => ?_)
      · refine r_istore (pc := 36) C dX4_valueOf_36 (lv' := [(0, .ref (q 45)), (1, .int a1), (2, .ref (q 3)), (3, .int a3), (4, .int a4), (5, .int x2)]) (by decide) [1, 2, 3, 4, 5, 0] rfl ?_
        refine l_X4_valueOf_nf_38 C hR a1 a3 a4 _ (fun S31 => ?_) FU S1 x2
        refine r_aload_n (pc := 171) C dX4_valueOf_171 0 rfl ?_
        refine r_cVwi (As := []) (st := []) (wf := cx g q E) (pc := 172) C (fun _ _ h => c_X4_pop_nf h) kY_X4_pop kw_4_30 kw_0_22 kw_4_28 rfl ⟨Nat.le_of_ble_eq_true rfl, Nat.le_of_ble_eq_true rfl⟩ rfl rfl ⟨Nat.zero_le _, Nat.zero_le _⟩ 44 rfl rfl rfl (Nat.le_of_ble_eq_true rfl) dX4_valueOf_172 (fun x32 S33 => ?_)
        exact r_retWI (wf := cx g q E) hR (pc := 175) dX4_valueOf_175
      · refine r_if_ne 28 (pc := 21) C dX4_valueOf_21 (by decide) ?_ ?_
        · refine r_aload_n (pc := 28) C dX4_valueOf_28 0 rfl ?_
          refine xg_nf_ends (pc := 29) C kw_2_62 dX4_valueOf_29 ?_
          refine r_iload_n (pc := 32) C dX4_valueOf_32 1 rfl ?_
          refine r_iconst (pc := 33) C dX4_valueOf_33 (v := 1) (by decide) ?_
          refine r_isub (pc := 34) C dX4_valueOf_34 ?_
          refine xl_nf_ends (pc := 35) C dX4_valueOf_35 ?_
          exact hk35 (S1.2.1 47 (a1 - 1).toNatClampNeg)
        · refine r_iconst (pc := 24) C dX4_valueOf_24 (v := 0) (by decide) ?_
          refine r_goto 36 (pc := 25) C dX4_valueOf_25 (by decide) ?_
          exact hk35 0
    · refine r_iconst (pc := 13) C dX4_valueOf_13 (v := 0) (by decide) ?_
      exact r_retWI (wf := cx g q E) hR (pc := 14) dX4_valueOf_14
set_option maxRecDepth 100000 in
theorem w_X4_valueOf_nf {S : CS} {a1 : Int32} {a3 : Int32} {a4 : Int32} {r : Int32} {S' : CS} (h : f_X4_valueOf_nf S a1 a3 a4 = some (r, S')) : gI [24] [48] S S' := by
  have hS : gI [24] [48] S S := gI_rf
  refine (?_ : jf (gI [24] [48] S) Prod.snd (f_X4_valueOf_nf S a1 a3 a4)) _ h
  unfold f_X4_valueOf_nf
  refine f_ite ?_ ?_
  · exact f_some hS
  · refine f_ite ?_ ?_
    · refine f_ltS (gI_ci hS (by decide)) (fun S1 hS1 => ?_)
      refine f_jm1 hS1 (fun x2 hS1 => ?_) (fun k34 hk35 => ?_)
      · refine v_X4_valueOf_nf_38 (fun S31 hS31 => ?_) FU S1 x2 hS1
        refine f_bwS (fun _ _ h => gI_tr hS31 (w_X4_pop_nf h) (by decide) (by decide)) (fun x32 S33 hS33 => ?_)
        exact f_some hS33
      · refine f_ite ?_ ?_
        · exact hk35 0 hS1
        · refine f_chk ?_
          exact hk35 (S1.2.1 47 (a1 - 1).toNatClampNeg) hS1
    · exact f_some hS
abbrev rm_X1_isWindTooStrong : Room := { frames := 0, cells := 0, slots := 0, locals := 0 }
theorem kY_X1_isWindTooStrong : kY yX1_isWindTooStrong cX1_isWindTooStrong 3 (some .boolean) 1 := ⟨kw_1_3, kw_4_38, by decide, by decide, by decide +kernel⟩
def f_X1_isWindTooStrong (S : CS) (a1 : Int32) : Option (Bool) :=
  chk a1 60 (
  chk (S.2.1 13 a1.toNatClampNeg) 6 (
  lt (S.2.1 6 (S.2.1 13 a1.toNatClampNeg).toNatClampNeg) fun x1 =>
  (if x1 = (-1) then
  some false
 else
  chk a1 60 (
  (if (S.2.1 19 a1.toNatClampNeg) ≤ x1 then
  some false
 else
  some true)))))
set_option maxRecDepth 100000 in
set_option maxHeartbeats 4000000 in
theorem c_X1_isWindTooStrong {g : KG} {q : Nat → Nat} {E : va_W} {S : CS} {a1 : Int32} {r : Bool} (h : f_X1_isWindTooStrong S a1 = some r) : ∀ l, kM l yX1_isWindTooStrong cX1_isWindTooStrong 3 (some .boolean) rm_X1_isWindTooStrong g [.ref (q 3), .int a1] (cx g q E S) (cx g q E S) (some (.int (b2 r))) 0 0 := by
  refine k_open_z (own := "MarkChains$Book") (by decide) rfl (Nat.le_of_ble_eq_true rfl) (fun X C hR => ?_)
  refine (?_ : jJ X g (r : Bool) (cx g q E S) 0 0 0 [(0, .ref (q 3)), (1, .int a1)] [] (f_X1_isWindTooStrong S a1)) h
  unfold f_X1_isWindTooStrong
  refine r_aload_n (pc := 0) C dX1_isWindTooStrong_0 0 rfl ?_
  refine xg_bk_events (pc := 1) C kw_1_92 dX1_isWindTooStrong_1 ?_
  refine xgN_pe_second (pc := 4) C knf_8 dX1_isWindTooStrong_4 ?_
  refine r_aload_n (pc := 7) C dX1_isWindTooStrong_7 0 rfl ?_
  refine xg_bk_event (pc := 8) C kw_1_101 dX1_isWindTooStrong_8 ?_
  refine r_iload_n (pc := 11) C dX1_isWindTooStrong_11 1 rfl ?_
  refine xl_bk_event (pc := 12) C dX1_isWindTooStrong_12 ?_
  refine xl_pe_second (pc := 13) C dX1_isWindTooStrong_13 ?_
  refine r_istoreV_n (pc := 14) C dX1_isWindTooStrong_14 (lv' := fun x1 => [(0, .ref (q 3)), (1, .int a1), (2, .int x1)]) (by decide) [1, 2, 0] (fun _ => rfl) (fun x1 => ?_)
  refine r_iload_n (pc := 15) C dX1_isWindTooStrong_15 2 rfl ?_
  refine r_iconst (pc := 16) C dX1_isWindTooStrong_16 (v := (-1)) (by decide) ?_
  refine r_icmp_eq 34 (pc := 17) C dX1_isWindTooStrong_17 (by decide) ?_ ?_
  · refine r_iconst (pc := 34) C dX1_isWindTooStrong_34 (v := 0) (by decide) ?_
    exact r_retPZ hR rfl (pc := 35) dX1_isWindTooStrong_35
  · refine r_aload_n (pc := 20) C dX1_isWindTooStrong_20 0 rfl ?_
    refine xg_bk_wind (pc := 21) C kw_1_115 dX1_isWindTooStrong_21 ?_
    refine r_iload_n (pc := 24) C dX1_isWindTooStrong_24 1 rfl ?_
    refine xl_bk_wind (pc := 25) C dX1_isWindTooStrong_25 ?_
    refine r_iload_n (pc := 26) C dX1_isWindTooStrong_26 2 rfl ?_
    refine r_icmp_le 34 (pc := 27) C dX1_isWindTooStrong_27 (by decide) ?_ ?_
    · refine r_iconst (pc := 34) C dX1_isWindTooStrong_34 (v := 0) (by decide) ?_
      exact r_retPZ hR rfl (pc := 35) dX1_isWindTooStrong_35
    · refine r_iconst (pc := 30) C dX1_isWindTooStrong_30 (v := 1) (by decide) ?_
      refine r_goto 35 (pc := 31) C dX1_isWindTooStrong_31 (by decide) ?_
      exact r_retPZ hR rfl (pc := 35) dX1_isWindTooStrong_35
abbrev rm_X11_lackOf : Room := { frames := 3, cells := 0, slots := 0, locals := 71 }
theorem kY_X11_lackOf : kY yX11_lackOf cX11_lackOf 4 (some .int) 2 := ⟨kw_1_1, kw_4_11, by decide, by decide, by decide +kernel⟩
def L_X11_lackOf_2 (c1 : Int32) (c2 : Int32) (k5 : CS → Option (Int32 × CS)) : Nat → CS → Int32 → Option (Int32 × CS) := lo2 fun rec3 S2 x1 =>
  bp (f_X4_parts_nf S2) (fun x7 =>
  (if x7 ≤ x1 then
  k5 S2
 else
  bw (f_X4_valueOf_nf S2 x1 c1 c2) (fun x8 S9 =>
  (if x8 = 0 then
  some (x1, S9)
 else
  lt (x1 + 1) fun x10 =>
  rec3 S9 x10))))
set_option maxRecDepth 100000 in
set_option maxHeartbeats 4000000 in
theorem l_X11_lackOf_2 {X : KX} {g : KG} {q : Nat → Nat} {E : va_W} {res : Int32 × CS} (C : kC X g cX11_lackOf "MarkChains" rm_X11_lackOf 4) (hR : ∀ (pc : Nat) (lv : List (Nat × Value)), decode cX11_lackOf pc = .ok (.ireturn, 1) → jW X g (cx g q E res.2) 0 0 pc lv [.int res.1]) (c1 : Int32) (c2 : Int32) (k5 : CS → Option (Int32 × CS)) (hk6 : ∀ (S11 : CS), jJ X g res (cx g q E S11) 0 0 38 [(0, .ref (q 0)), (1, .int c1)] [] (k5 S11)) : ∀ (n : Nat) (S2 : CS) (x1 : Int32), jJ X g res (cx g q E S2) 0 0 2 [(0, .ref (q 0)), (1, .int c1), (2, .int c2), (3, .int x1)] [] (L_X11_lackOf_2 c1 c2 k5 n S2 x1) := by
  refine r_lo2 (fun S2 x1 => cx g q E S2) (fun S2 x1 => [(0, .ref (q 0)), (1, .int c1), (2, .int c2), (3, .int x1)]) (fun rec3 ih4 S2 x1 => ?_)
  refine r_iload_n (pc := 2) C dX11_lackOf_2 3 rfl ?_
  refine r_aload_n (pc := 3) C dX11_lackOf_3 0 rfl ?_
  refine xg_x_needed (pc := 4) C kw_2_84 dX11_lackOf_4 ?_
  refine r_cVpi (As := []) (st := [.int x1]) (pc := 7) C (fun _ h => c_X4_parts_nf h) kY_X4_parts kw_3_217 kw_3_218 kw_3_216 rfl ⟨Nat.le_of_ble_eq_true rfl, Nat.le_of_ble_eq_true rfl⟩ rfl rfl ⟨Nat.zero_le _, Nat.zero_le _⟩ 44 rfl rfl rfl (Nat.le_of_ble_eq_true rfl) dX11_lackOf_7 (fun x7 => ?_)
  refine r_icmp_ge 38 (pc := 10) C dX11_lackOf_10 (by decide) ?_ ?_
  · refine r_sub (lv' := [(0, .ref (q 0)), (1, .int c1)]) [0, 1] rfl ?_
    exact hk6 S2
  · refine r_aload_n (pc := 13) C dX11_lackOf_13 0 rfl ?_
    refine xg_x_needed (pc := 14) C kw_2_84 dX11_lackOf_14 ?_
    refine r_iload_n (pc := 17) C dX11_lackOf_17 3 rfl ?_
    refine r_aload_n (pc := 18) C dX11_lackOf_18 0 rfl ?_
    refine xg_x_book (pc := 19) C kw_2_75 dX11_lackOf_19 ?_
    refine r_iload_n (pc := 22) C dX11_lackOf_22 1 rfl ?_
    refine r_iload_n (pc := 23) C dX11_lackOf_23 2 rfl ?_
    refine r_cVwi (As := [.int x1, .ref (q 3), .int c1, .int c2]) (st := []) (wf := cx g q E) (pc := 24) C (fun _ _ h => c_X4_valueOf_nf h) kY_X4_valueOf kw_4_13 kw_4_14 kw_4_12 rfl ⟨Nat.le_of_ble_eq_true rfl, Nat.le_of_ble_eq_true rfl⟩ rfl rfl ⟨Nat.zero_le _, Nat.zero_le _⟩ 44 rfl rfl rfl (Nat.le_of_ble_eq_true rfl) dX11_lackOf_24 (fun x8 S9 => ?_)
    refine r_if_ne 32 (pc := 27) C dX11_lackOf_27 (by decide) ?_ ?_
    · refine r_iinc (pc := 32) C dX11_lackOf_32 (v := 1) (lv' := fun x10 => [(0, .ref (q 0)), (1, .int c1), (2, .int c2), (3, .int x10)]) 3 rfl (by decide) (by decide) [1, 2, 3, 0] (fun _ => rfl) (fun x10 => ?_)
      refine r_goto 2 (pc := 35) C dX11_lackOf_35 (by decide) ?_
      exact ih4 S9 x10
    · refine r_iload_n (pc := 30) C dX11_lackOf_30 3 rfl ?_
      exact r_retWI (wf := cx g q E) hR (pc := 31) dX11_lackOf_31
set_option maxRecDepth 100000 in
theorem v_X11_lackOf_2 {S0 : CS} {c1 : Int32} {c2 : Int32} {k5 : CS → Option (Int32 × CS)} (hk6 : ∀ (S11 : CS), (gI [24] [48] S0) S11 → jf (gI [24] [48] S0) Prod.snd (k5 S11)) : ∀ (n : Nat) (S2 : CS) (x1 : Int32), (gI [24] [48] S0) S2 → jf (gI [24] [48] S0) Prod.snd (L_X11_lackOf_2 c1 c2 k5 n S2 x1) := by
  refine f_lo2 (I := (gI [24] [48] S0)) (fun S2 x1 => S2) (fun rec3 ih4 S2 x1 hS2 => ?_)
  refine f_bp (fun x7 => ?_)
  refine f_ite ?_ ?_
  · exact hk6 S2 hS2
  · refine f_bwS (fun _ _ h => gI_tr hS2 (w_X4_valueOf_nf h) (by decide) (by decide)) (fun x8 S9 hS9 => ?_)
    refine f_ite ?_ ?_
    · exact f_some hS9
    · refine f_lt (fun x10 => ?_)
      exact ih4 S9 x10 hS9
def f_X11_lackOf (S : CS) (a1 : Int32) (a2 : Int32) : Option (Int32 × CS) :=
  L_X11_lackOf_2 a1 a2 (fun S12 =>
  bp (f_X1_isWindTooStrong S12 a1) (fun x13 =>
  (if x13 = true then
  some (8, S12)
 else
  some ((-1), S12)))) FU S 0
set_option maxRecDepth 100000 in
set_option maxHeartbeats 4000000 in
theorem c_X11_lackOf {g : KG} {q : Nat → Nat} {E : va_W} {S : CS} {a1 : Int32} {a2 : Int32} {r : Int32} {S' : CS} (h : f_X11_lackOf S a1 a2 = some (r, S')) : ∀ l, kM l yX11_lackOf cX11_lackOf 4 (some .int) rm_X11_lackOf g [.ref (q 0), .int a1, .int a2] (cx g q E S) (cx g q E S') (some (.int r)) 0 0 := by
  refine k_open_i (own := "MarkChains") (by decide) rfl (Nat.le_of_ble_eq_true rfl) (fun X C hR => ?_)
  refine (?_ : jJ X g ((r, S') : Int32 × CS) (cx g q E S) 0 0 0 [(0, .ref (q 0)), (1, .int a1), (2, .int a2)] [] (f_X11_lackOf S a1 a2)) h
  unfold f_X11_lackOf
  refine r_iconst (pc := 0) C dX11_lackOf_0 (v := 0) (by decide) ?_
  refine r_istore_n (pc := 1) C dX11_lackOf_1 (lv' := [(0, .ref (q 0)), (1, .int a1), (2, .int a2), (3, .int 0)]) (by decide) [1, 2, 3, 0] rfl ?_
  refine l_X11_lackOf_2 C hR a1 a2 _ (fun S12 => ?_) FU S 0
  refine r_aload_n (pc := 38) C dX11_lackOf_38 0 rfl ?_
  refine xg_x_book (pc := 39) C kw_2_75 dX11_lackOf_39 ?_
  refine r_iload_n (pc := 42) C dX11_lackOf_42 1 rfl ?_
  refine r_cVpz (As := [.int a1]) (st := []) (pc := 43) C (fun _ h => c_X1_isWindTooStrong h) kY_X1_isWindTooStrong kw_4_36 kw_4_37 kw_4_35 rfl ⟨Nat.le_of_ble_eq_true rfl, Nat.le_of_ble_eq_true rfl⟩ rfl rfl ⟨Nat.zero_le _, Nat.zero_le _⟩ 3 rfl rfl rfl (Nat.le_of_ble_eq_true rfl) dX11_lackOf_43 (fun x13 => ?_)
  refine r_ifb_eq 54 (pc := 46) C dX11_lackOf_46 (by decide) ?_ ?_
  · refine r_iconst (pc := 54) C dX11_lackOf_54 (v := (-1)) (by decide) ?_
    exact r_retWI (wf := cx g q E) hR (pc := 55) dX11_lackOf_55
  · refine r_bipush (pc := 49) C dX11_lackOf_49 (v := 8) (by decide) ?_
    refine r_goto 55 (pc := 51) C dX11_lackOf_51 (by decide) ?_
    exact r_retWI (wf := cx g q E) hR (pc := 55) dX11_lackOf_55
set_option maxRecDepth 100000 in
theorem w_X11_lackOf {S : CS} {a1 : Int32} {a2 : Int32} {r : Int32} {S' : CS} (h : f_X11_lackOf S a1 a2 = some (r, S')) : gI [24] [48] S S' := by
  have hS : gI [24] [48] S S := gI_rf
  refine (?_ : jf (gI [24] [48] S) Prod.snd (f_X11_lackOf S a1 a2)) _ h
  unfold f_X11_lackOf
  refine v_X11_lackOf_2 (fun S12 hS12 => ?_) FU S 0 hS
  refine f_bp (fun x13 => ?_)
  refine f_ite ?_ ?_
  · exact f_some hS12
  · exact f_some hS12
abbrev rm_X11_countGood : Room := { frames := 4, cells := 0, slots := 0, locals := 94 }
theorem kY_X11_countGood : kY yX11_countGood cX11_countGood 3 (some .int) 0 := ⟨kw_1_1, kw_4_7, by decide, by decide, by decide +kernel⟩
def L_X11_countGood_4 (k6 : CS → Int32 → Option (Int32 × CS)) : Nat → CS → Int32 → Int32 → Option (Int32 × CS) := lo3 fun rec4 S3 x1 x2 =>
  (if (S3.1 6) ≤ x2 then
  k6 S3 x1
 else
  chk x2 60 (
  bw (f_X11_lackOf S3 x2 (S3.2.1 21 x2.toNatClampNeg)) (fun x8 S9 =>
  (if x8 = (-1) then
  lt (x1 + 1) fun x11 =>
  lt (x2 + 1) fun x12 =>
  rec4 S9 x11 x12
 else
  lt (x2 + 1) fun x10 =>
  rec4 S9 x1 x10))))
set_option maxRecDepth 100000 in
set_option maxHeartbeats 4000000 in
theorem l_X11_countGood_4 {X : KX} {g : KG} {q : Nat → Nat} {E : va_W} {res : Int32 × CS} (C : kC X g cX11_countGood "MarkChains" rm_X11_countGood 3) (hR : ∀ (pc : Nat) (lv : List (Nat × Value)), decode cX11_countGood pc = .ok (.ireturn, 1) → jW X g (cx g q E res.2) 0 0 pc lv [.int res.1]) (k6 : CS → Int32 → Option (Int32 × CS)) (hk7 : ∀ (S13 : CS) (x14 : Int32), jJ X g res (cx g q E S13) 0 0 42 [(1, .int x14)] [] (k6 S13 x14)) : ∀ (n : Nat) (S3 : CS) (x1 : Int32) (x2 : Int32), jJ X g res (cx g q E S3) 0 0 4 [(0, .ref (q 0)), (1, .int x1), (2, .int x2)] [] (L_X11_countGood_4 k6 n S3 x1 x2) := by
  refine r_lo3 (fun S3 x1 x2 => cx g q E S3) (fun S3 x1 x2 => [(0, .ref (q 0)), (1, .int x1), (2, .int x2)]) (fun rec4 ih5 S3 x1 x2 => ?_)
  refine r_iload_n (pc := 4) C dX11_countGood_4 2 rfl ?_
  refine r_aload_n (pc := 5) C dX11_countGood_5 0 rfl ?_
  refine xg_x_book (pc := 6) C kw_2_75 dX11_countGood_6 ?_
  refine xgN_bk_size (pc := 9) C knf_30 dX11_countGood_9 ?_
  refine r_icmp_ge 42 (pc := 12) C dX11_countGood_12 (by decide) ?_ ?_
  · refine r_sub (lv' := [(1, .int x1)]) [1] rfl ?_
    exact hk7 S3 x1
  · refine r_aload_n (pc := 15) C dX11_countGood_15 0 rfl ?_
    refine r_iload_n (pc := 16) C dX11_countGood_16 2 rfl ?_
    refine r_aload_n (pc := 17) C dX11_countGood_17 0 rfl ?_
    refine xg_x_book (pc := 18) C kw_2_75 dX11_countGood_18 ?_
    refine xgN_bk_papers (pc := 21) C knf_25 dX11_countGood_21 ?_
    refine r_iload_n (pc := 24) C dX11_countGood_24 2 rfl ?_
    refine xl_bk_papers (pc := 25) C dX11_countGood_25 ?_
    refine r_cVwi (As := [.int x2, .int (S3.2.1 21 x2.toNatClampNeg)]) (st := []) (wf := cx g q E) (pc := 26) C (fun _ _ h => c_X11_lackOf h) kY_X11_lackOf kw_4_10 kw_0_20 kw_4_8 rfl ⟨Nat.le_of_ble_eq_true rfl, Nat.le_of_ble_eq_true rfl⟩ rfl rfl ⟨Nat.zero_le _, Nat.zero_le _⟩ 0 rfl rfl rfl (Nat.le_of_ble_eq_true rfl) dX11_countGood_26 (fun x8 S9 => ?_)
    refine r_iconst (pc := 29) C dX11_countGood_29 (v := (-1)) (by decide) ?_
    refine r_icmp_ne 36 (pc := 30) C dX11_countGood_30 (by decide) ?_ ?_
    · refine r_iinc (pc := 36) C dX11_countGood_36 (v := 1) (lv' := fun x10 => [(0, .ref (q 0)), (1, .int x1), (2, .int x10)]) 2 rfl (by decide) (by decide) [1, 2, 0] (fun _ => rfl) (fun x10 => ?_)
      refine r_goto 4 (pc := 39) C dX11_countGood_39 (by decide) ?_
      exact ih5 S9 x1 x10
    · refine r_iinc (pc := 33) C dX11_countGood_33 (v := 1) (lv' := fun x11 => [(0, .ref (q 0)), (1, .int x11), (2, .int x2)]) 1 rfl (by decide) (by decide) [1, 0, 2] (fun _ => rfl) (fun x11 => ?_)
      refine r_iinc (pc := 36) C dX11_countGood_36 (v := 1) (lv' := fun x12 => [(0, .ref (q 0)), (1, .int x11), (2, .int x12)]) 2 rfl (by decide) (by decide) [1, 2, 0] (fun _ => rfl) (fun x12 => ?_)
      refine r_goto 4 (pc := 39) C dX11_countGood_39 (by decide) ?_
      exact ih5 S9 x11 x12
set_option maxRecDepth 100000 in
theorem v_X11_countGood_4 {S0 : CS} {k6 : CS → Int32 → Option (Int32 × CS)} (hk7 : ∀ (S13 : CS) (x14 : Int32), (gI [24] [48] S0) S13 → jf (gI [24] [48] S0) Prod.snd (k6 S13 x14)) : ∀ (n : Nat) (S3 : CS) (x1 : Int32) (x2 : Int32), (gI [24] [48] S0) S3 → jf (gI [24] [48] S0) Prod.snd (L_X11_countGood_4 k6 n S3 x1 x2) := by
  refine f_lo3 (I := (gI [24] [48] S0)) (fun S3 x1 x2 => S3) (fun rec4 ih5 S3 x1 x2 hS3 => ?_)
  refine f_ite ?_ ?_
  · exact hk7 S3 x1 hS3
  · refine f_chk ?_
    refine f_bwS (fun _ _ h => gI_tr hS3 (w_X11_lackOf h) (by decide) (by decide)) (fun x8 S9 hS9 => ?_)
    refine f_ite ?_ ?_
    · refine f_lt (fun x11 => ?_)
      refine f_lt (fun x12 => ?_)
      exact ih5 S9 x11 x12 hS9
    · refine f_lt (fun x10 => ?_)
      exact ih5 S9 x1 x10 hS9
def f_X11_countGood (S : CS) : Option (Int32 × CS) :=
  L_X11_countGood_4 (fun S15 x16 =>
  some (x16, S15)) FU S 0 0
set_option maxRecDepth 100000 in
set_option maxHeartbeats 4000000 in
theorem c_X11_countGood {g : KG} {q : Nat → Nat} {E : va_W} {S : CS}  {r : Int32} {S' : CS} (h : f_X11_countGood S = some (r, S')) : ∀ l, kM l yX11_countGood cX11_countGood 3 (some .int) rm_X11_countGood g [.ref (q 0)] (cx g q E S) (cx g q E S') (some (.int r)) 0 0 := by
  refine k_open_i (own := "MarkChains") (by decide) rfl (Nat.le_of_ble_eq_true rfl) (fun X C hR => ?_)
  refine (?_ : jJ X g ((r, S') : Int32 × CS) (cx g q E S) 0 0 0 [(0, .ref (q 0))] [] (f_X11_countGood S)) h
  unfold f_X11_countGood
  refine r_iconst (pc := 0) C dX11_countGood_0 (v := 0) (by decide) ?_
  refine r_istore_n (pc := 1) C dX11_countGood_1 (lv' := [(0, .ref (q 0)), (1, .int 0)]) (by decide) [1, 0] rfl ?_
  refine r_iconst (pc := 2) C dX11_countGood_2 (v := 0) (by decide) ?_
  refine r_istore_n (pc := 3) C dX11_countGood_3 (lv' := [(0, .ref (q 0)), (1, .int 0), (2, .int 0)]) (by decide) [1, 2, 0] rfl ?_
  refine l_X11_countGood_4 C hR _ (fun S15 x16 => ?_) FU S 0 0
  refine r_iload_n (pc := 42) C dX11_countGood_42 0 rfl ?_
  exact r_retWI (wf := cx g q E) hR (pc := 43) dX11_countGood_43
set_option maxRecDepth 100000 in
theorem w_X11_countGood {S : CS}  {r : Int32} {S' : CS} (h : f_X11_countGood S = some (r, S')) : gI [24] [48] S S' := by
  have hS : gI [24] [48] S S := gI_rf
  refine (?_ : jf (gI [24] [48] S) Prod.snd (f_X11_countGood S)) _ h
  unfold f_X11_countGood
  refine v_X11_countGood_4 (fun S15 x16 hS15 => ?_) FU S 0 0 hS
  exact f_some hS15
abbrev rm_X11_is : Room := { frames := 5, cells := 0, slots := 0, locals := 116 }
theorem kY_X11_is : kY yX11_is cX11_is 2 (some .int) 1 := ⟨kw_1_1, kw_3_227, by decide, by decide, by decide +kernel⟩
def f_X11_is (S : CS) (a1 : Int32) : Option (Int32 × CS) :=
  (if a1 = 0 then
  some (S.1 7, S)
 else
  (if a1 = 1 then
  some (S.1 8, S)
 else
  (if a1 = 2 then
  some (S.1 9, S)
 else
  (if a1 = 3 then
  some (S.1 6, S)
 else
  (if a1 = 4 then
  bp (f_X4_parts_nf S) (fun x1 =>
  some (x1, S))
 else
  (if a1 = 5 then
  some (S.1 0, S)
 else
  (if a1 = 6 then
  some (S.1 20, S)
 else
  (if a1 = 7 then
  some (S.1 1, S)
 else
  (if a1 = 8 then
  bp (f_X1_countStanding S (S.1 0)) (fun x2 =>
  some (x2, S))
 else
  (if a1 = 9 then
  bp (f_X1_countStruck S) (fun x3 =>
  some (x3, S))
 else
  (if a1 = 10 then
  bp (f_X1_countRatified S) (fun x4 =>
  some (x4, S))
 else
  (if a1 = 11 then
  bw (f_X11_countGood S) (fun x5 S6 =>
  some (x5, S6))
 else
  some ((-1), S)))))))))))))
set_option maxRecDepth 100000 in
set_option maxHeartbeats 4000000 in
theorem c_X11_is {g : KG} {q : Nat → Nat} {E : va_W} {S : CS} {a1 : Int32} {r : Int32} {S' : CS} (h : f_X11_is S a1 = some (r, S')) : ∀ l, kM l yX11_is cX11_is 2 (some .int) rm_X11_is g [.ref (q 0), .int a1] (cx g q E S) (cx g q E S') (some (.int r)) 0 0 := by
  refine k_open_i (own := "MarkChains") (by decide) rfl (Nat.le_of_ble_eq_true rfl) (fun X C hR => ?_)
  refine (?_ : jJ X g ((r, S') : Int32 × CS) (cx g q E S) 0 0 0 [(0, .ref (q 0)), (1, .int a1)] [] (f_X11_is S a1)) h
  unfold f_X11_is
  refine r_iload_n (pc := 0) C dX11_is_0 1 rfl ?_
  refine r_case (fun h1_0 => ?_) (fun h1_0 => ?_)
  · refine r_tabIn (off := 63) 64 (pc := 1) C dX11_is_1 h1_0 (by decide) (by decide) (by decide) (by decide) ?_
    refine r_aload_n (pc := 64) C dX11_is_64 0 rfl ?_
    refine xg_x_book (pc := 65) C kw_2_75 dX11_is_65 ?_
    refine xgN_bk_events (pc := 68) C knf_12 dX11_is_68 ?_
    refine xgN_pe_size (pc := 71) C knf_9 dX11_is_71 ?_
    exact r_retWI (wf := cx g q E) hR (pc := 74) dX11_is_74
  · refine r_case (fun h1_1 => ?_) (fun h1_1 => ?_)
    · refine r_tabIn (off := 74) 75 (pc := 1) C dX11_is_1 h1_1 (by decide) (by decide) (by decide) (by decide) ?_
      refine r_aload_n (pc := 75) C dX11_is_75 0 rfl ?_
      refine xg_x_book (pc := 76) C kw_2_75 dX11_is_76 ?_
      refine xgN_bk_places (pc := 79) C knf_14 dX11_is_79 ?_
      refine xgN_pp_size (pc := 82) C knf_9 dX11_is_82 ?_
      exact r_retWI (wf := cx g q E) hR (pc := 85) dX11_is_85
    · refine r_case (fun h1_2 => ?_) (fun h1_2 => ?_)
      · refine r_tabIn (off := 85) 86 (pc := 1) C dX11_is_1 h1_2 (by decide) (by decide) (by decide) (by decide) ?_
        refine r_aload_n (pc := 86) C dX11_is_86 0 rfl ?_
        refine xg_x_book (pc := 87) C kw_2_75 dX11_is_87 ?_
        refine xgN_bk_athletes (pc := 90) C knf_16 dX11_is_90 ?_
        refine xgN_pa_size (pc := 93) C knf_9 dX11_is_93 ?_
        exact r_retWI (wf := cx g q E) hR (pc := 96) dX11_is_96
      · refine r_case (fun h1_3 => ?_) (fun h1_3 => ?_)
        · refine r_tabIn (off := 96) 97 (pc := 1) C dX11_is_1 h1_3 (by decide) (by decide) (by decide) (by decide) ?_
          refine r_aload_n (pc := 97) C dX11_is_97 0 rfl ?_
          refine xg_x_book (pc := 98) C kw_2_75 dX11_is_98 ?_
          refine xgN_bk_size (pc := 101) C knf_30 dX11_is_101 ?_
          exact r_retWI (wf := cx g q E) hR (pc := 104) dX11_is_104
        · refine r_case (fun h1_4 => ?_) (fun h1_4 => ?_)
          · refine r_tabIn (off := 104) 105 (pc := 1) C dX11_is_1 h1_4 (by decide) (by decide) (by decide) (by decide) ?_
            refine r_aload_n (pc := 105) C dX11_is_105 0 rfl ?_
            refine xg_x_needed (pc := 106) C kw_2_84 dX11_is_106 ?_
            refine r_cVpi (As := []) (st := []) (pc := 109) C (fun _ h => c_X4_parts_nf h) kY_X4_parts kw_3_217 kw_3_218 kw_3_216 rfl ⟨Nat.le_of_ble_eq_true rfl, Nat.le_of_ble_eq_true rfl⟩ rfl rfl ⟨Nat.zero_le _, Nat.zero_le _⟩ 44 rfl rfl rfl (Nat.le_of_ble_eq_true rfl) dX11_is_109 (fun x1 => ?_)
            exact r_retWI (wf := cx g q E) hR (pc := 112) dX11_is_112
          · refine r_case (fun h1_5 => ?_) (fun h1_5 => ?_)
            · refine r_tabIn (off := 112) 113 (pc := 1) C dX11_is_1 h1_5 (by decide) (by decide) (by decide) (by decide) ?_
              refine r_aload_n (pc := 113) C dX11_is_113 0 rfl ?_
              refine xg_x_today (pc := 114) C kw_2_86 dX11_is_114 ?_
              exact r_retWI (wf := cx g q E) hR (pc := 117) dX11_is_117
            · refine r_case (fun h1_6 => ?_) (fun h1_6 => ?_)
              · refine r_tabIn (off := 117) 118 (pc := 1) C dX11_is_1 h1_6 (by decide) (by decide) (by decide) (by decide) ?_
                refine r_aload_n (pc := 118) C dX11_is_118 0 rfl ?_
                refine xg_x_deeds (pc := 119) C kw_2_79 dX11_is_119 ?_
                refine xgN_de_size (pc := 122) C knf_35 dX11_is_122 ?_
                exact r_retWI (wf := cx g q E) hR (pc := 125) dX11_is_125
              · refine r_case (fun h1_7 => ?_) (fun h1_7 => ?_)
                · refine r_tabIn (off := 125) 126 (pc := 1) C dX11_is_1 h1_7 (by decide) (by decide) (by decide) (by decide) ?_
                  refine r_aload_n (pc := 126) C dX11_is_126 0 rfl ?_
                  refine xg_x_tape (pc := 127) C kw_2_74 dX11_is_127 ?_
                  refine xgN_tp_length (pc := 130) C knf_0 dX11_is_130 ?_
                  exact r_retWI (wf := cx g q E) hR (pc := 133) dX11_is_133
                · refine r_case (fun h1_8 => ?_) (fun h1_8 => ?_)
                  · refine r_tabIn (off := 133) 134 (pc := 1) C dX11_is_1 h1_8 (by decide) (by decide) (by decide) (by decide) ?_
                    refine r_aload_n (pc := 134) C dX11_is_134 0 rfl ?_
                    refine xg_x_book (pc := 135) C kw_2_75 dX11_is_135 ?_
                    refine r_aload_n (pc := 138) C dX11_is_138 0 rfl ?_
                    refine xg_x_today (pc := 139) C kw_2_86 dX11_is_139 ?_
                    refine r_cVpi (As := [.int (S.1 0)]) (st := []) (pc := 142) C (fun _ h => c_X1_countStanding h) kY_X1_countStanding kw_3_229 kw_3_230 kw_3_228 rfl ⟨Nat.le_of_ble_eq_true rfl, Nat.le_of_ble_eq_true rfl⟩ rfl rfl ⟨Nat.zero_le _, Nat.zero_le _⟩ 3 rfl rfl rfl (Nat.le_of_ble_eq_true rfl) dX11_is_142 (fun x2 => ?_)
                    exact r_retWI (wf := cx g q E) hR (pc := 145) dX11_is_145
                  · refine r_case (fun h1_9 => ?_) (fun h1_9 => ?_)
                    · refine r_tabIn (off := 145) 146 (pc := 1) C dX11_is_1 h1_9 (by decide) (by decide) (by decide) (by decide) ?_
                      refine r_aload_n (pc := 146) C dX11_is_146 0 rfl ?_
                      refine xg_x_book (pc := 147) C kw_2_75 dX11_is_147 ?_
                      refine r_cVpi (As := []) (st := []) (pc := 150) C (fun _ h => c_X1_countStruck h) kY_X1_countStruck kw_3_237 kw_3_238 kw_3_236 rfl ⟨Nat.le_of_ble_eq_true rfl, Nat.le_of_ble_eq_true rfl⟩ rfl rfl ⟨Nat.zero_le _, Nat.zero_le _⟩ 3 rfl rfl rfl (Nat.le_of_ble_eq_true rfl) dX11_is_150 (fun x3 => ?_)
                      exact r_retWI (wf := cx g q E) hR (pc := 153) dX11_is_153
                    · refine r_case (fun h1_10 => ?_) (fun h1_10 => ?_)
                      · refine r_tabIn (off := 153) 154 (pc := 1) C dX11_is_1 h1_10 (by decide) (by decide) (by decide) (by decide) ?_
                        refine r_aload_n (pc := 154) C dX11_is_154 0 rfl ?_
                        refine xg_x_book (pc := 155) C kw_2_75 dX11_is_155 ?_
                        refine r_cVpi (As := []) (st := []) (pc := 158) C (fun _ h => c_X1_countRatified h) kY_X1_countRatified kw_4_1 kw_4_2 kw_4_0 rfl ⟨Nat.le_of_ble_eq_true rfl, Nat.le_of_ble_eq_true rfl⟩ rfl rfl ⟨Nat.zero_le _, Nat.zero_le _⟩ 3 rfl rfl rfl (Nat.le_of_ble_eq_true rfl) dX11_is_158 (fun x4 => ?_)
                        exact r_retWI (wf := cx g q E) hR (pc := 161) dX11_is_161
                      · refine r_case (fun h1_11 => ?_) (fun h1_11 => ?_)
                        · refine r_tabIn (off := 161) 162 (pc := 1) C dX11_is_1 h1_11 (by decide) (by decide) (by decide) (by decide) ?_
                          refine r_aload_n (pc := 162) C dX11_is_162 0 rfl ?_
                          refine r_cVwi (As := []) (st := []) (wf := cx g q E) (pc := 163) C (fun _ _ h => c_X11_countGood h) kY_X11_countGood kw_4_6 kw_0_19 kw_4_4 rfl ⟨Nat.le_of_ble_eq_true rfl, Nat.le_of_ble_eq_true rfl⟩ rfl rfl ⟨Nat.zero_le _, Nat.zero_le _⟩ 0 rfl rfl rfl (Nat.le_of_ble_eq_true rfl) dX11_is_163 (fun x5 S6 => ?_)
                          exact r_retWI (wf := cx g q E) hR (pc := 166) dX11_is_166
                        · refine r_tabDef 167 (pc := 1) C dX11_is_1 (by decide) (fun j hj => ?_) (by decide) ?_
                          · match j, hj with
                            | 0, _ => exact Or.inr (lv_neT h1_0 (by decide))
                            | 1, _ => exact Or.inr (lv_neT h1_1 (by decide))
                            | 2, _ => exact Or.inr (lv_neT h1_2 (by decide))
                            | 3, _ => exact Or.inr (lv_neT h1_3 (by decide))
                            | 4, _ => exact Or.inr (lv_neT h1_4 (by decide))
                            | 5, _ => exact Or.inr (lv_neT h1_5 (by decide))
                            | 6, _ => exact Or.inr (lv_neT h1_6 (by decide))
                            | 7, _ => exact Or.inr (lv_neT h1_7 (by decide))
                            | 8, _ => exact Or.inr (lv_neT h1_8 (by decide))
                            | 9, _ => exact Or.inr (lv_neT h1_9 (by decide))
                            | 10, _ => exact Or.inr (lv_neT h1_10 (by decide))
                            | 11, _ => exact Or.inr (lv_neT h1_11 (by decide))
                            | j + 12, hj => exact absurd hj (by simp)
                          · refine r_iconst (pc := 167) C dX11_is_167 (v := (-1)) (by decide) ?_
                            exact r_retWI (wf := cx g q E) hR (pc := 168) dX11_is_168
set_option maxRecDepth 100000 in
theorem w_X11_is {S : CS} {a1 : Int32} {r : Int32} {S' : CS} (h : f_X11_is S a1 = some (r, S')) : gI [24] [48] S S' := by
  have hS : gI [24] [48] S S := gI_rf
  refine (?_ : jf (gI [24] [48] S) Prod.snd (f_X11_is S a1)) _ h
  unfold f_X11_is
  refine f_ite ?_ ?_
  · exact f_some hS
  · refine f_ite ?_ ?_
    · exact f_some hS
    · refine f_ite ?_ ?_
      · exact f_some hS
      · refine f_ite ?_ ?_
        · exact f_some hS
        · refine f_ite ?_ ?_
          · refine f_bp (fun x1 => ?_)
            exact f_some hS
          · refine f_ite ?_ ?_
            · exact f_some hS
            · refine f_ite ?_ ?_
              · exact f_some hS
              · refine f_ite ?_ ?_
                · exact f_some hS
                · refine f_ite ?_ ?_
                  · refine f_bp (fun x2 => ?_)
                    exact f_some hS
                  · refine f_ite ?_ ?_
                    · refine f_bp (fun x3 => ?_)
                      exact f_some hS
                    · refine f_ite ?_ ?_
                      · refine f_bp (fun x4 => ?_)
                        exact f_some hS
                      · refine f_ite ?_ ?_
                        · refine f_bwS (fun _ _ h => gI_tr hS (w_X11_countGood h) (by decide) (by decide)) (fun x5 S6 hS6 => ?_)
                          exact f_some hS6
                        · exact f_some hS
