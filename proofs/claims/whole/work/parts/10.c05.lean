abbrev rm_X7_countNotIn_l1l2 : Room := { frames := 1, cells := 0, slots := 0, locals := 22 }
def L_X7_countNotIn_l1l2_4 (S : CS) (k5 : Int32 → Option (Int32)) : Nat → Int32 → Int32 → Option (Int32) := lo2 fun rec3 x1 x2 =>
  (if (S.1 21) ≤ x2 then
  k5 x1
 else
  chk x2 60 (
  bp (f_X7_placeOf_l2 S (S.2.1 37 x2.toNatClampNeg)) (fun x7 =>
  (if x7 = (-1) then
  lt (x1 + 1) fun x9 =>
  lt (x2 + 1) fun x10 =>
  rec3 x9 x10
 else
  lt (x2 + 1) fun x8 =>
  rec3 x1 x8))))
set_option maxRecDepth 100000 in
set_option maxHeartbeats 4000000 in
theorem l_X7_countNotIn_l1l2_4 {X : KX} {g : KG} {q : Nat → Nat} {E : va_W} {res : Int32} {S : CS} (C : kC X g cX7_countNotIn "MarkChains$Line" rm_X7_countNotIn_l1l2 4) (hR : ∀ (pc : Nat) (lv : List (Nat × Value)), decode cX7_countNotIn pc = .ok (.ireturn, 1) → jW X g (cx g q E S) 0 0 pc lv [.int res]) (k5 : Int32 → Option (Int32)) (hk6 : ∀ (x11 : Int32), jJ X g res (cx g q E S) 0 0 35 [(2, .int x11)] [] (k5 x11)) : ∀ (n : Nat) (x1 : Int32) (x2 : Int32), jJ X g res (cx g q E S) 0 0 4 [(0, .ref (q 36)), (1, .ref (q 39)), (2, .int x1), (3, .int x2)] [] (L_X7_countNotIn_l1l2_4 S k5 n x1 x2) := by
  refine r_lo2 (fun x1 x2 => cx g q E S) (fun x1 x2 => [(0, .ref (q 36)), (1, .ref (q 39)), (2, .int x1), (3, .int x2)]) (fun rec3 ih4 x1 x2 => ?_)
  refine r_iload_n (pc := 4) C dX7_countNotIn_4 3 rfl ?_
  refine r_aload_n (pc := 5) C dX7_countNotIn_5 0 rfl ?_
  refine xg_l1_size (pc := 6) C kw_2_29 dX7_countNotIn_6 ?_
  refine r_icmp_ge 35 (pc := 9) C dX7_countNotIn_9 (by decide) ?_ ?_
  · refine r_sub (lv' := [(2, .int x1)]) [2] rfl ?_
    exact hk6 x1
  · refine r_aload_n (pc := 12) C dX7_countNotIn_12 1 rfl ?_
    refine r_aload_n (pc := 13) C dX7_countNotIn_13 0 rfl ?_
    refine xg_l1_numbers (pc := 14) C kw_2_26 dX7_countNotIn_14 ?_
    refine r_iload_n (pc := 17) C dX7_countNotIn_17 3 rfl ?_
    refine xl_l1_numbers (pc := 18) C dX7_countNotIn_18 ?_
    refine r_cVpi (As := [.int (S.2.1 37 x2.toNatClampNeg)]) (st := []) (pc := 19) C (fun _ h => c_X7_placeOf_l2 h) kY_X7_placeOf kw_4_212 kw_4_213 kw_4_211 rfl ⟨Nat.le_of_ble_eq_true rfl, Nat.le_of_ble_eq_true rfl⟩ rfl rfl ⟨Nat.zero_le _, Nat.zero_le _⟩ 38 rfl rfl rfl (Nat.le_of_ble_eq_true rfl) dX7_countNotIn_19 (fun x7 => ?_)
    refine r_iconst (pc := 22) C dX7_countNotIn_22 (v := (-1)) (by decide) ?_
    refine r_icmp_ne 29 (pc := 23) C dX7_countNotIn_23 (by decide) ?_ ?_
    · refine r_iinc (pc := 29) C dX7_countNotIn_29 (v := 1) (lv' := fun x8 => [(0, .ref (q 36)), (1, .ref (q 39)), (2, .int x1), (3, .int x8)]) 3 rfl (by decide) (by decide) [1, 2, 3, 0] (fun _ => rfl) (fun x8 => ?_)
      refine r_goto 4 (pc := 32) C dX7_countNotIn_32 (by decide) ?_
      exact ih4 x1 x8
    · refine r_iinc (pc := 26) C dX7_countNotIn_26 (v := 1) (lv' := fun x9 => [(0, .ref (q 36)), (1, .ref (q 39)), (2, .int x9), (3, .int x2)]) 2 rfl (by decide) (by decide) [1, 2, 0, 3] (fun _ => rfl) (fun x9 => ?_)
      refine r_iinc (pc := 29) C dX7_countNotIn_29 (v := 1) (lv' := fun x10 => [(0, .ref (q 36)), (1, .ref (q 39)), (2, .int x9), (3, .int x10)]) 3 rfl (by decide) (by decide) [1, 2, 3, 0] (fun _ => rfl) (fun x10 => ?_)
      refine r_goto 4 (pc := 32) C dX7_countNotIn_32 (by decide) ?_
      exact ih4 x9 x10
def f_X7_countNotIn_l1l2 (S : CS) : Option (Int32) :=
  L_X7_countNotIn_l1l2_4 S (fun x12 =>
  some x12) FU 0 0
set_option maxRecDepth 100000 in
set_option maxHeartbeats 4000000 in
theorem c_X7_countNotIn_l1l2 {g : KG} {q : Nat → Nat} {E : va_W} {S : CS}  {r : Int32} (h : f_X7_countNotIn_l1l2 S = some r) : ∀ l, kM l yX7_countNotIn cX7_countNotIn 4 (some .int) rm_X7_countNotIn_l1l2 g [.ref (q 36), .ref (q 39)] (cx g q E S) (cx g q E S) (some (.int r)) 0 0 := by
  refine k_open_i (own := "MarkChains$Line") (by decide) rfl (Nat.le_of_ble_eq_true rfl) (fun X C hR => ?_)
  refine (?_ : jJ X g (r : Int32) (cx g q E S) 0 0 0 [(0, .ref (q 36)), (1, .ref (q 39))] [] (f_X7_countNotIn_l1l2 S)) h
  unfold f_X7_countNotIn_l1l2
  refine r_iconst (pc := 0) C dX7_countNotIn_0 (v := 0) (by decide) ?_
  refine r_istore_n (pc := 1) C dX7_countNotIn_1 (lv' := [(0, .ref (q 36)), (1, .ref (q 39)), (2, .int 0)]) (by decide) [1, 2, 0] rfl ?_
  refine r_iconst (pc := 2) C dX7_countNotIn_2 (v := 0) (by decide) ?_
  refine r_istore_n (pc := 3) C dX7_countNotIn_3 (lv' := [(0, .ref (q 36)), (1, .ref (q 39)), (2, .int 0), (3, .int 0)]) (by decide) [1, 2, 3, 0] rfl ?_
  refine l_X7_countNotIn_l1l2_4 C hR _ (fun x12 => ?_) FU 0 0
  refine r_iload_n (pc := 35) C dX7_countNotIn_35 0 rfl ?_
  exact r_retPI hR (pc := 36) dX7_countNotIn_36
abbrev rm_X7_lowestNotIn_l1l2 : Room := { frames := 1, cells := 0, slots := 0, locals := 22 }
def L_X7_lowestNotIn_l1l2_4 (S : CS) (k5 : Int32 → Option (Int32)) : Nat → Int32 → Int32 → Option (Int32) := lo2 fun rec3 x1 x2 =>
  (if (S.1 21) ≤ x2 then
  k5 x1
 else
  chk x2 60 (
  lt (S.2.1 37 x2.toNatClampNeg) fun x7 =>
  bp (f_X7_placeOf_l2 S x7) (fun x8 =>
  (if x8 = (-1) then
  jn0 (lt (x2 + 1) fun x10 =>
  rec3 x7 x10) (fun k11 =>
  (if x1 = (-1) then
  k11
 else
  (if x1 ≤ x7 then
  lt (x2 + 1) fun x13 =>
  rec3 x1 x13
 else
  k11)))
 else
  lt (x2 + 1) fun x9 =>
  rec3 x1 x9))))
set_option maxRecDepth 100000 in
set_option maxHeartbeats 4000000 in
theorem l_X7_lowestNotIn_l1l2_4 {X : KX} {g : KG} {q : Nat → Nat} {E : va_W} {res : Int32} {S : CS} (C : kC X g cX7_lowestNotIn "MarkChains$Line" rm_X7_lowestNotIn_l1l2 5) (hR : ∀ (pc : Nat) (lv : List (Nat × Value)), decode cX7_lowestNotIn pc = .ok (.ireturn, 1) → jW X g (cx g q E S) 0 0 pc lv [.int res]) (k5 : Int32 → Option (Int32)) (hk6 : ∀ (x14 : Int32), jJ X g res (cx g q E S) 0 0 50 [(2, .int x14)] [] (k5 x14)) : ∀ (n : Nat) (x1 : Int32) (x2 : Int32), jJ X g res (cx g q E S) 0 0 4 [(0, .ref (q 36)), (1, .ref (q 39)), (2, .int x1), (3, .int x2)] [] (L_X7_lowestNotIn_l1l2_4 S k5 n x1 x2) := by
  refine r_lo2 (fun x1 x2 => cx g q E S) (fun x1 x2 => [(0, .ref (q 36)), (1, .ref (q 39)), (2, .int x1), (3, .int x2)]) (fun rec3 ih4 x1 x2 => ?_)
  refine r_iload_n (pc := 4) C dX7_lowestNotIn_4 3 rfl ?_
  refine r_aload_n (pc := 5) C dX7_lowestNotIn_5 0 rfl ?_
  refine xg_l1_size (pc := 6) C kw_2_29 dX7_lowestNotIn_6 ?_
  refine r_icmp_ge 50 (pc := 9) C dX7_lowestNotIn_9 (by decide) ?_ ?_
  · refine r_sub (lv' := [(2, .int x1)]) [2] rfl ?_
    exact hk6 x1
  · refine r_aload_n (pc := 12) C dX7_lowestNotIn_12 0 rfl ?_
    refine xg_l1_numbers (pc := 13) C kw_2_26 dX7_lowestNotIn_13 ?_
    refine r_iload_n (pc := 16) C dX7_lowestNotIn_16 3 rfl ?_
    refine xl_l1_numbers (pc := 17) C dX7_lowestNotIn_17 ?_
    refine r_istoreV (pc := 18) C dX7_lowestNotIn_18 (lv' := fun x7 => [(0, .ref (q 36)), (1, .ref (q 39)), (2, .int x1), (3, .int x2), (4, .int x7)]) (by decide) [1, 2, 3, 4, 0] (fun _ => rfl) (fun x7 => ?_)
    refine r_aload_n (pc := 20) C dX7_lowestNotIn_20 1 rfl ?_
    refine r_iload (pc := 21) C dX7_lowestNotIn_21 4 rfl ?_
    refine r_cVpi (As := [.int x7]) (st := []) (pc := 23) C (fun _ h => c_X7_placeOf_l2 h) kY_X7_placeOf kw_4_212 kw_4_213 kw_4_211 rfl ⟨Nat.le_of_ble_eq_true rfl, Nat.le_of_ble_eq_true rfl⟩ rfl rfl ⟨Nat.zero_le _, Nat.zero_le _⟩ 38 rfl rfl rfl (Nat.le_of_ble_eq_true rfl) dX7_lowestNotIn_23 (fun x8 => ?_)
    refine r_iconst (pc := 26) C dX7_lowestNotIn_26 (v := (-1)) (by decide) ?_
    refine r_icmp_ne 44 (pc := 27) C dX7_lowestNotIn_27 (by decide) ?_ ?_
    · refine r_iinc (pc := 44) C dX7_lowestNotIn_44 (v := 1) (lv' := fun x9 => [(0, .ref (q 36)), (1, .ref (q 39)), (2, .int x1), (3, .int x9), (4, .int x7)]) 3 rfl (by decide) (by decide) [1, 2, 3, 0, 4] (fun _ => rfl) (fun x9 => ?_)
      refine r_goto 4 (pc := 47) C dX7_lowestNotIn_47 (by decide) ?_
      refine r_sub (lv' := [(0, .ref (q 36)), (1, .ref (q 39)), (2, .int x1), (3, .int x9)]) [0, 1, 2, 3] rfl ?_
      exact ih4 x1 x9
    · refine r_iload_n (pc := 30) C dX7_lowestNotIn_30 2 rfl ?_
      refine r_iconst (pc := 31) C dX7_lowestNotIn_31 (v := (-1)) (by decide) ?_
      refine r_jn0 41 (cx g q E S) ([(0, .ref (q 36)), (1, .ref (q 39)), (3, .int x2), (4, .int x7)]) ([]) ?_ (fun k11 hk12 => ?_)
      · refine r_iload (pc := 41) C dX7_lowestNotIn_41 3 rfl ?_
        refine r_istore_n (pc := 43) C dX7_lowestNotIn_43 (lv' := [(0, .ref (q 36)), (1, .ref (q 39)), (2, .int x7), (3, .int x2), (4, .int x7)]) (by decide) [1, 2, 0, 3, 4] rfl ?_
        refine r_iinc (pc := 44) C dX7_lowestNotIn_44 (v := 1) (lv' := fun x10 => [(0, .ref (q 36)), (1, .ref (q 39)), (2, .int x7), (3, .int x10), (4, .int x7)]) 3 rfl (by decide) (by decide) [1, 2, 3, 0, 4] (fun _ => rfl) (fun x10 => ?_)
        refine r_goto 4 (pc := 47) C dX7_lowestNotIn_47 (by decide) ?_
        refine r_sub (lv' := [(0, .ref (q 36)), (1, .ref (q 39)), (2, .int x7), (3, .int x10)]) [0, 1, 2, 3] rfl ?_
        exact ih4 x7 x10
      · refine r_icmp_eq 41 (pc := 32) C dX7_lowestNotIn_32 (by decide) ?_ ?_
        · refine r_sub (lv' := [(0, .ref (q 36)), (1, .ref (q 39)), (3, .int x2), (4, .int x7)]) [0, 1, 3, 4] rfl ?_
          exact hk12
        · refine r_iload (pc := 35) C dX7_lowestNotIn_35 4 rfl ?_
          refine r_iload_n (pc := 37) C dX7_lowestNotIn_37 2 rfl ?_
          refine r_icmp_ge 44 (pc := 38) C dX7_lowestNotIn_38 (by decide) ?_ ?_
          · refine r_iinc (pc := 44) C dX7_lowestNotIn_44 (v := 1) (lv' := fun x13 => [(0, .ref (q 36)), (1, .ref (q 39)), (2, .int x1), (3, .int x13), (4, .int x7)]) 3 rfl (by decide) (by decide) [1, 2, 3, 0, 4] (fun _ => rfl) (fun x13 => ?_)
            refine r_goto 4 (pc := 47) C dX7_lowestNotIn_47 (by decide) ?_
            refine r_sub (lv' := [(0, .ref (q 36)), (1, .ref (q 39)), (2, .int x1), (3, .int x13)]) [0, 1, 2, 3] rfl ?_
            exact ih4 x1 x13
          · refine r_sub (lv' := [(0, .ref (q 36)), (1, .ref (q 39)), (3, .int x2), (4, .int x7)]) [0, 1, 3, 4] rfl ?_
            exact hk12
def f_X7_lowestNotIn_l1l2 (S : CS) : Option (Int32) :=
  L_X7_lowestNotIn_l1l2_4 S (fun x15 =>
  some x15) FU (-1) 0
set_option maxRecDepth 100000 in
set_option maxHeartbeats 4000000 in
theorem c_X7_lowestNotIn_l1l2 {g : KG} {q : Nat → Nat} {E : va_W} {S : CS}  {r : Int32} (h : f_X7_lowestNotIn_l1l2 S = some r) : ∀ l, kM l yX7_lowestNotIn cX7_lowestNotIn 5 (some .int) rm_X7_lowestNotIn_l1l2 g [.ref (q 36), .ref (q 39)] (cx g q E S) (cx g q E S) (some (.int r)) 0 0 := by
  refine k_open_i (own := "MarkChains$Line") (by decide) rfl (Nat.le_of_ble_eq_true rfl) (fun X C hR => ?_)
  refine (?_ : jJ X g (r : Int32) (cx g q E S) 0 0 0 [(0, .ref (q 36)), (1, .ref (q 39))] [] (f_X7_lowestNotIn_l1l2 S)) h
  unfold f_X7_lowestNotIn_l1l2
  refine r_iconst (pc := 0) C dX7_lowestNotIn_0 (v := (-1)) (by decide) ?_
  refine r_istore_n (pc := 1) C dX7_lowestNotIn_1 (lv' := [(0, .ref (q 36)), (1, .ref (q 39)), (2, .int (-1))]) (by decide) [1, 2, 0] rfl ?_
  refine r_iconst (pc := 2) C dX7_lowestNotIn_2 (v := 0) (by decide) ?_
  refine r_istore_n (pc := 3) C dX7_lowestNotIn_3 (lv' := [(0, .ref (q 36)), (1, .ref (q 39)), (2, .int (-1)), (3, .int 0)]) (by decide) [1, 2, 3, 0] rfl ?_
  refine l_X7_lowestNotIn_l1l2_4 C hR _ (fun x15 => ?_) FU (-1) 0
  refine r_iload_n (pc := 50) C dX7_lowestNotIn_50 0 rfl ?_
  exact r_retPI hR (pc := 51) dX7_lowestNotIn_51
abbrev rm_X11_altered : Room := { frames := 4, cells := 0, slots := 0, locals := 94 }
theorem kY_X11_altered : kY yX11_altered cX11_altered 7 (some .int) 4 := ⟨kw_1_1, kw_4_206, by decide, by decide, by decide +kernel⟩
def f_X11_altered (S : CS) (a1 : Int32) (a2 : Int32) (a3 : Int32) (a4 : Int32) : Option (Int32 × CS) :=
  (if a1 < 0 then
  some ((-2), S)
 else
  (if 191 < a1 then
  some ((-2), S)
 else
  (if a4 < 0 then
  some ((-2), S)
 else
  (if a4 ≤ 3 then
  lt (a1 / 32) fun x1 =>
  lt (a1 - a1 / 32 * 32) fun x2 =>
  bp (f_X11_isAsked S x1 x2 a2) (fun x3 =>
  (if x3 = true then
  bp (f_X11_isDay a3) (fun x4 =>
  (if x4 = true then
  bp (f_X7_fillWithChain_l1 S x1 x2 a2 (-1)) (fun S5 =>
  bp (f_X7_fillWithChain_l2 S5 x1 x2 a3 (-1)) (fun S6 =>
  (if a4 = 0 then
  bp (f_X7_countNotIn_l2l1 S6) (fun x7 =>
  some (x7, S6))
 else
  (if a4 = 1 then
  bp (f_X7_lowestNotIn_l2l1 S6) (fun x8 =>
  some (x8, S6))
 else
  (if a4 = 2 then
  bp (f_X7_countNotIn_l1l2 S6) (fun x9 =>
  some (x9, S6))
 else
  bp (f_X7_lowestNotIn_l1l2 S6) (fun x10 =>
  some (x10, S6)))))))
 else
  some ((-2), S)))
 else
  some ((-2), S)))
 else
  some ((-2), S)))))
set_option maxRecDepth 100000 in
set_option maxHeartbeats 4000000 in
theorem c_X11_altered {g : KG} {q : Nat → Nat} {E : va_W} {S : CS} {a1 : Int32} {a2 : Int32} {a3 : Int32} {a4 : Int32} {r : Int32} {S' : CS} (h : f_X11_altered S a1 a2 a3 a4 = some (r, S')) : ∀ l, kM l yX11_altered cX11_altered 7 (some .int) rm_X11_altered g [.ref (q 0), .int a1, .int a2, .int a3, .int a4] (cx g q E S) (cx g q E S') (some (.int r)) 0 0 := by
  refine k_open_i (own := "MarkChains") (by decide) rfl (Nat.le_of_ble_eq_true rfl) (fun X C hR => ?_)
  refine (?_ : jJ X g ((r, S') : Int32 × CS) (cx g q E S) 0 0 0 [(0, .ref (q 0)), (1, .int a1), (2, .int a2), (3, .int a3), (4, .int a4)] [] (f_X11_altered S a1 a2 a3 a4)) h
  unfold f_X11_altered
  refine r_iload_n (pc := 0) C dX11_altered_0 1 rfl ?_
  refine r_if_lt 22 (pc := 1) C dX11_altered_1 (by decide) ?_ ?_
  · refine r_bipush (pc := 22) C dX11_altered_22 (v := (-2)) (by decide) ?_
    exact r_retWI (wf := cx g q E) hR (pc := 24) dX11_altered_24
  · refine r_iload_n (pc := 4) C dX11_altered_4 1 rfl ?_
    refine r_sipush (pc := 5) C dX11_altered_5 (v := 191) (by decide) ?_
    refine r_icmp_gt 22 (pc := 8) C dX11_altered_8 (by decide) ?_ ?_
    · refine r_bipush (pc := 22) C dX11_altered_22 (v := (-2)) (by decide) ?_
      exact r_retWI (wf := cx g q E) hR (pc := 24) dX11_altered_24
    · refine r_iload (pc := 11) C dX11_altered_11 4 rfl ?_
      refine r_if_lt 22 (pc := 13) C dX11_altered_13 (by decide) ?_ ?_
      · refine r_bipush (pc := 22) C dX11_altered_22 (v := (-2)) (by decide) ?_
        exact r_retWI (wf := cx g q E) hR (pc := 24) dX11_altered_24
      · refine r_iload (pc := 16) C dX11_altered_16 4 rfl ?_
        refine r_iconst (pc := 18) C dX11_altered_18 (v := 3) (by decide) ?_
        refine r_icmp_le 25 (pc := 19) C dX11_altered_19 (by decide) ?_ ?_
        · refine r_iload_n (pc := 25) C dX11_altered_25 1 rfl ?_
          refine r_bipush (pc := 26) C dX11_altered_26 (v := 32) (by decide) ?_
          refine r_idiv (pc := 28) C dX11_altered_28 (by decide) ?_
          refine r_istoreV (pc := 29) C dX11_altered_29 (lv' := fun x1 => [(0, .ref (q 0)), (1, .int a1), (2, .int a2), (3, .int a3), (4, .int a4), (5, .int x1)]) (by decide) [1, 2, 3, 4, 5, 0] (fun _ => rfl) (fun x1 => ?_)
          refine r_iload_n (pc := 31) C dX11_altered_31 1 rfl ?_
          refine r_bipush (pc := 32) C dX11_altered_32 (v := 32) (by decide) ?_
          refine r_irem (pc := 34) C dX11_altered_34 (by decide) ?_
          refine r_istoreV (pc := 35) C dX11_altered_35 (lv' := fun x2 => [(0, .ref (q 0)), (1, .int a1), (2, .int a2), (3, .int a3), (4, .int a4), (5, .int x1), (6, .int x2)]) (by decide) [1, 2, 3, 4, 5, 6, 0] (fun _ => rfl) (fun x2 => ?_)
          refine r_aload_n (pc := 37) C dX11_altered_37 0 rfl ?_
          refine r_iload (pc := 38) C dX11_altered_38 5 rfl ?_
          refine r_iload (pc := 40) C dX11_altered_40 6 rfl ?_
          refine r_iload_n (pc := 42) C dX11_altered_42 2 rfl ?_
          refine r_cVpz (As := [.int x1, .int x2, .int a2]) (st := []) (pc := 43) C (fun _ h => c_X11_isAsked h) kY_X11_isAsked kw_4_111 kw_0_25 kw_4_109 rfl ⟨Nat.le_of_ble_eq_true rfl, Nat.le_of_ble_eq_true rfl⟩ rfl rfl ⟨Nat.zero_le _, Nat.zero_le _⟩ 0 rfl rfl rfl (Nat.le_of_ble_eq_true rfl) dX11_altered_43 (fun x3 => ?_)
          refine r_ifb_eq 56 (pc := 46) C dX11_altered_46 (by decide) ?_ ?_
          · refine r_bipush (pc := 56) C dX11_altered_56 (v := (-2)) (by decide) ?_
            exact r_retWI (wf := cx g q E) hR (pc := 58) dX11_altered_58
          · refine r_iload_n (pc := 49) C dX11_altered_49 3 rfl ?_
            refine r_cSpz (As := [.int a3]) (st := []) (pc := 50) C (fun _ h => c_X11_isDay h) kY_X11_isDay kw_4_114 kw_4_113 rfl ⟨Nat.le_of_ble_eq_true rfl, Nat.le_of_ble_eq_true rfl⟩ rfl rfl ⟨Nat.zero_le _, Nat.zero_le _⟩ rfl (Nat.le_of_ble_eq_true rfl) dX11_altered_50 (fun x4 => ?_)
            refine r_ifb_ne 59 (pc := 53) C dX11_altered_53 (by decide) ?_ ?_
            · refine r_aload_n (pc := 59) C dX11_altered_59 0 rfl ?_
              refine xg_x_line (pc := 60) C kw_2_80 dX11_altered_60 ?_
              refine r_iload (pc := 63) C dX11_altered_63 5 rfl ?_
              refine r_iload (pc := 65) C dX11_altered_65 6 rfl ?_
              refine r_iload_n (pc := 67) C dX11_altered_67 2 rfl ?_
              refine r_iconst (pc := 68) C dX11_altered_68 (v := (-1)) (by decide) ?_
              refine r_cVwv (As := [.int x1, .int x2, .int a2, .int (-1)]) (st := []) (wf := cx g q E) (pc := 69) C (fun _ h => c_X7_fillWithChain_l1 h) kY_X7_fillWithChain kw_4_117 kw_4_118 kw_4_116 rfl ⟨Nat.le_of_ble_eq_true rfl, Nat.le_of_ble_eq_true rfl⟩ rfl rfl ⟨Nat.zero_le _, Nat.zero_le _⟩ 35 rfl rfl rfl (Nat.le_of_ble_eq_true rfl) dX11_altered_69 (fun S5 => ?_)
              refine r_aload_n (pc := 72) C dX11_altered_72 0 rfl ?_
              refine xg_x_secondLine (pc := 73) C kw_2_81 dX11_altered_73 ?_
              refine r_iload (pc := 76) C dX11_altered_76 5 rfl ?_
              refine r_iload (pc := 78) C dX11_altered_78 6 rfl ?_
              refine r_iload_n (pc := 80) C dX11_altered_80 3 rfl ?_
              refine r_iconst (pc := 81) C dX11_altered_81 (v := (-1)) (by decide) ?_
              refine r_cVwv (As := [.int x1, .int x2, .int a3, .int (-1)]) (st := []) (wf := cx g q E) (pc := 82) C (fun _ h => c_X7_fillWithChain_l2 h) kY_X7_fillWithChain kw_4_117 kw_4_118 kw_4_116 rfl ⟨Nat.le_of_ble_eq_true rfl, Nat.le_of_ble_eq_true rfl⟩ rfl rfl ⟨Nat.zero_le _, Nat.zero_le _⟩ 38 rfl rfl rfl (Nat.le_of_ble_eq_true rfl) dX11_altered_82 (fun S6 => ?_)
              refine r_iload (pc := 85) C dX11_altered_85 4 rfl ?_
              refine r_case (fun h87_0 => ?_) (fun h87_0 => ?_)
              · refine r_tabIn (off := 25) 112 (pc := 87) C dX11_altered_87 h87_0 (by decide) (by decide) (by decide) (by decide) ?_
                refine r_aload_n (pc := 112) C dX11_altered_112 0 rfl ?_
                refine xg_x_secondLine (pc := 113) C kw_2_81 dX11_altered_113 ?_
                refine r_aload_n (pc := 116) C dX11_altered_116 0 rfl ?_
                refine xg_x_line (pc := 117) C kw_2_80 dX11_altered_117 ?_
                refine r_cVpi (As := [.ref (q 36)]) (st := []) (pc := 120) C (fun _ h => c_X7_countNotIn_l2l1 h) kY_X7_countNotIn kw_4_208 kw_4_209 kw_4_207 rfl ⟨Nat.le_of_ble_eq_true rfl, Nat.le_of_ble_eq_true rfl⟩ rfl rfl ⟨Nat.zero_le _, Nat.zero_le _⟩ 38 rfl rfl rfl (Nat.le_of_ble_eq_true rfl) dX11_altered_120 (fun x7 => ?_)
                exact r_retWI (wf := cx g q E) hR (pc := 123) dX11_altered_123
              · refine r_case (fun h87_1 => ?_) (fun h87_1 => ?_)
                · refine r_tabIn (off := 37) 124 (pc := 87) C dX11_altered_87 h87_1 (by decide) (by decide) (by decide) (by decide) ?_
                  refine r_aload_n (pc := 124) C dX11_altered_124 0 rfl ?_
                  refine xg_x_secondLine (pc := 125) C kw_2_81 dX11_altered_125 ?_
                  refine r_aload_n (pc := 128) C dX11_altered_128 0 rfl ?_
                  refine xg_x_line (pc := 129) C kw_2_80 dX11_altered_129 ?_
                  refine r_cVpi (As := [.ref (q 36)]) (st := []) (pc := 132) C (fun _ h => c_X7_lowestNotIn_l2l1 h) kY_X7_lowestNotIn kw_4_216 kw_4_217 kw_4_215 rfl ⟨Nat.le_of_ble_eq_true rfl, Nat.le_of_ble_eq_true rfl⟩ rfl rfl ⟨Nat.zero_le _, Nat.zero_le _⟩ 38 rfl rfl rfl (Nat.le_of_ble_eq_true rfl) dX11_altered_132 (fun x8 => ?_)
                  exact r_retWI (wf := cx g q E) hR (pc := 135) dX11_altered_135
                · refine r_case (fun h87_2 => ?_) (fun h87_2 => ?_)
                  · refine r_tabIn (off := 49) 136 (pc := 87) C dX11_altered_87 h87_2 (by decide) (by decide) (by decide) (by decide) ?_
                    refine r_aload_n (pc := 136) C dX11_altered_136 0 rfl ?_
                    refine xg_x_line (pc := 137) C kw_2_80 dX11_altered_137 ?_
                    refine r_aload_n (pc := 140) C dX11_altered_140 0 rfl ?_
                    refine xg_x_secondLine (pc := 141) C kw_2_81 dX11_altered_141 ?_
                    refine r_cVpi (As := [.ref (q 39)]) (st := []) (pc := 144) C (fun _ h => c_X7_countNotIn_l1l2 h) kY_X7_countNotIn kw_4_208 kw_4_209 kw_4_207 rfl ⟨Nat.le_of_ble_eq_true rfl, Nat.le_of_ble_eq_true rfl⟩ rfl rfl ⟨Nat.zero_le _, Nat.zero_le _⟩ 35 rfl rfl rfl (Nat.le_of_ble_eq_true rfl) dX11_altered_144 (fun x9 => ?_)
                    exact r_retWI (wf := cx g q E) hR (pc := 147) dX11_altered_147
                  · refine r_tabDef 148 (pc := 87) C dX11_altered_87 (by decide) (fun j hj => ?_) (by decide) ?_
                    · match j, hj with
                      | 0, _ => exact Or.inr (lv_neT h87_0 (by decide))
                      | 1, _ => exact Or.inr (lv_neT h87_1 (by decide))
                      | 2, _ => exact Or.inr (lv_neT h87_2 (by decide))
                      | j + 3, hj => exact absurd hj (by simp)
                    · refine r_aload_n (pc := 148) C dX11_altered_148 0 rfl ?_
                      refine xg_x_line (pc := 149) C kw_2_80 dX11_altered_149 ?_
                      refine r_aload_n (pc := 152) C dX11_altered_152 0 rfl ?_
                      refine xg_x_secondLine (pc := 153) C kw_2_81 dX11_altered_153 ?_
                      refine r_cVpi (As := [.ref (q 39)]) (st := []) (pc := 156) C (fun _ h => c_X7_lowestNotIn_l1l2 h) kY_X7_lowestNotIn kw_4_216 kw_4_217 kw_4_215 rfl ⟨Nat.le_of_ble_eq_true rfl, Nat.le_of_ble_eq_true rfl⟩ rfl rfl ⟨Nat.zero_le _, Nat.zero_le _⟩ 35 rfl rfl rfl (Nat.le_of_ble_eq_true rfl) dX11_altered_156 (fun x10 => ?_)
                      exact r_retWI (wf := cx g q E) hR (pc := 159) dX11_altered_159
            · refine r_bipush (pc := 56) C dX11_altered_56 (v := (-2)) (by decide) ?_
              exact r_retWI (wf := cx g q E) hR (pc := 58) dX11_altered_58
        · refine r_bipush (pc := 22) C dX11_altered_22 (v := (-2)) (by decide) ?_
          exact r_retWI (wf := cx g q E) hR (pc := 24) dX11_altered_24
set_option maxRecDepth 100000 in
theorem w_X11_altered {S : CS} {a1 : Int32} {a2 : Int32} {a3 : Int32} {a4 : Int32} {r : Int32} {S' : CS} (h : f_X11_altered S a1 a2 a3 a4 = some (r, S')) : gI [21, 22] [37, 40] S S' := by
  have hS : gI [21, 22] [37, 40] S S := gI_rf
  refine (?_ : jf (gI [21, 22] [37, 40] S) Prod.snd (f_X11_altered S a1 a2 a3 a4)) _ h
  unfold f_X11_altered
  refine f_ite ?_ ?_
  · exact f_some hS
  · refine f_ite ?_ ?_
    · exact f_some hS
    · refine f_ite ?_ ?_
      · exact f_some hS
      · refine f_ite ?_ ?_
        · refine f_lt (fun x1 => ?_)
          refine f_lt (fun x2 => ?_)
          refine f_bp (fun x3 => ?_)
          refine f_ite ?_ ?_
          · refine f_bp (fun x4 => ?_)
            refine f_ite ?_ ?_
            · refine f_bpS (fun _ h => gI_tr hS (w_X7_fillWithChain_l1 h) (by decide) (by decide)) (fun S5 hS5 => ?_)
              refine f_bpS (fun _ h => gI_tr hS5 (w_X7_fillWithChain_l2 h) (by decide) (by decide)) (fun S6 hS6 => ?_)
              refine f_ite ?_ ?_
              · refine f_bp (fun x7 => ?_)
                exact f_some hS6
              · refine f_ite ?_ ?_
                · refine f_bp (fun x8 => ?_)
                  exact f_some hS6
                · refine f_ite ?_ ?_
                  · refine f_bp (fun x9 => ?_)
                    exact f_some hS6
                  · refine f_bp (fun x10 => ?_)
                    exact f_some hS6
            · exact f_some hS
          · exact f_some hS
        · exact f_some hS
abbrev rm_J7_fill_53178_l1_bestOf : Room := { frames := 0, cells := 0, slots := 0, locals := 0 }
theorem kY_J7_fill_53178 : kY yJ7_fill_53178 cJ7_fill_53178 4 none 2 := ⟨kw_1_20, kw_4_229, by decide, by decide, by decide +kernel⟩
def L_J7_fill_53178_l1_bestOf_5 (c1 : Int32) (c3 : Int32) (k5 : CS → Option (CS)) : Nat → CS → Int32 → Option (CS) := lo2 fun rec3 S2 x1 =>
  (if c3 ≤ x1 then
  k5 S2
 else
  chk x1 16 (lt (ca S2 38 (upd (S2.2.1 38) x1.toNatClampNeg c1)) fun S7 =>
  lt (x1 + 1) fun x8 =>
  rec3 S7 x8))
set_option maxRecDepth 100000 in
set_option maxHeartbeats 4000000 in
theorem l_J7_fill_53178_l1_bestOf_5 {X : KX} {g : KG} {q : Nat → Nat} {E : va_W} {res : CS} (C : kC X g cJ7_fill_53178 "java/util/Arrays" rm_J7_fill_53178_l1_bestOf 4) (hR : ∀ (pc : Nat) (lv : List (Nat × Value)), decode cJ7_fill_53178 pc = .ok (.return_, 1) → jW X g (cx g q E res) 0 0 pc lv []) (c1 : Int32) (c3 : Int32) (k5 : CS → Option (CS)) (hk6 : ∀ (S9 : CS), jJ X g res (cx g q E S9) 0 0 20 [] [] (k5 S9)) : ∀ (n : Nat) (S2 : CS) (x1 : Int32), jJ X g res (cx g q E S2) 0 0 5 [(0, .ref (q 38)), (1, .int c1), (2, .int x1), (3, .int c3)] [] (L_J7_fill_53178_l1_bestOf_5 c1 c3 k5 n S2 x1) := by
  refine r_lo2 (fun S2 x1 => cx g q E S2) (fun S2 x1 => [(0, .ref (q 38)), (1, .int c1), (2, .int x1), (3, .int c3)]) (fun rec3 ih4 S2 x1 => ?_)
  refine r_iload_n (pc := 5) C dJ7_fill_53178_5 2 rfl ?_
  refine r_iload_n (pc := 6) C dJ7_fill_53178_6 3 rfl ?_
  refine r_icmp_ge 20 (pc := 7) C dJ7_fill_53178_7 (by decide) ?_ ?_
  · refine r_sub (lv' := []) [] rfl ?_
    exact hk6 S2
  · refine r_aload_n (pc := 10) C dJ7_fill_53178_10 0 rfl ?_
    refine r_iload_n (pc := 11) C dJ7_fill_53178_11 2 rfl ?_
    refine r_iload_n (pc := 12) C dJ7_fill_53178_12 1 rfl ?_
    refine xs_l1_bestOf (pc := 13) C dJ7_fill_53178_13 (fun S7 => ?_)
    refine r_iinc (pc := 14) C dJ7_fill_53178_14 (v := 1) (lv' := fun x8 => [(0, .ref (q 38)), (1, .int c1), (2, .int x8), (3, .int c3)]) 2 rfl (by decide) (by decide) [1, 2, 0, 3] (fun _ => rfl) (fun x8 => ?_)
    refine r_goto 5 (pc := 17) C dJ7_fill_53178_17 (by decide) ?_
    exact ih4 S7 x8
set_option maxRecDepth 100000 in
theorem v_J7_fill_53178_l1_bestOf_5 {S0 : CS} {c1 : Int32} {c3 : Int32} {k5 : CS → Option (CS)} (hk6 : ∀ (S9 : CS), (gI [] [38] S0) S9 → jf (gI [] [38] S0) id (k5 S9)) : ∀ (n : Nat) (S2 : CS) (x1 : Int32), (gI [] [38] S0) S2 → jf (gI [] [38] S0) id (L_J7_fill_53178_l1_bestOf_5 c1 c3 k5 n S2 x1) := by
  refine f_lo2 (I := (gI [] [38] S0)) (fun S2 x1 => S2) (fun rec3 ih4 S2 x1 hS2 => ?_)
  refine f_ite ?_ ?_
  · exact hk6 S2 hS2
  · refine f_chk (f_ltS (gI_ca hS2 (by decide)) (fun S7 hS7 => ?_))
    refine f_lt (fun x8 => ?_)
    exact ih4 S7 x8 hS7
def f_J7_fill_53178_l1_bestOf (S : CS) (a1 : Int32) : Option (CS) :=
  L_J7_fill_53178_l1_bestOf_5 a1 16 (fun S10 =>
  some S10) FU S 0
set_option maxRecDepth 100000 in
set_option maxHeartbeats 4000000 in
theorem c_J7_fill_53178_l1_bestOf {g : KG} {q : Nat → Nat} {E : va_W} {S : CS} {a1 : Int32} {S' : CS} (h : f_J7_fill_53178_l1_bestOf S a1 = some S') : ∀ l, kM l yJ7_fill_53178 cJ7_fill_53178 4 none rm_J7_fill_53178_l1_bestOf g [.ref (q 38), .int a1] (cx g q E S) (cx g q E S') (none) 0 0 := by
  refine k_open_v (own := "java/util/Arrays") (by decide) rfl (Nat.le_of_ble_eq_true rfl) (fun X C hR => ?_)
  refine (?_ : jJ X g (S' : CS) (cx g q E S) 0 0 0 [(0, .ref (q 38)), (1, .int a1)] [] (f_J7_fill_53178_l1_bestOf S a1)) h
  unfold f_J7_fill_53178_l1_bestOf
  refine r_iconst (pc := 0) C dJ7_fill_53178_0 (v := 0) (by decide) ?_
  refine r_istore_n (pc := 1) C dJ7_fill_53178_1 (lv' := [(0, .ref (q 38)), (1, .int a1), (2, .int 0)]) (by decide) [1, 2, 0] rfl ?_
  refine r_aload_n (pc := 2) C dJ7_fill_53178_2 0 rfl ?_
  refine xn_l1_bestOf (pc := 3) C dJ7_fill_53178_3 ?_
  refine r_istore_n (pc := 4) C dJ7_fill_53178_4 (lv' := [(0, .ref (q 38)), (1, .int a1), (2, .int 0), (3, .int 16)]) (by decide) [1, 2, 3, 0] rfl ?_
  refine l_J7_fill_53178_l1_bestOf_5 C hR a1 16 _ (fun S10 => ?_) FU S 0
  exact r_retWV (wf := cx g q E) hR (pc := 20) dJ7_fill_53178_20
set_option maxRecDepth 100000 in
theorem w_J7_fill_53178_l1_bestOf {S : CS} {a1 : Int32} {S' : CS} (h : f_J7_fill_53178_l1_bestOf S a1 = some S') : gI [] [38] S S' := by
  have hS : gI [] [38] S S := gI_rf
  refine (?_ : jf (gI [] [38] S) id (f_J7_fill_53178_l1_bestOf S a1)) _ h
  unfold f_J7_fill_53178_l1_bestOf
  refine v_J7_fill_53178_l1_bestOf_5 (fun S10 hS10 => ?_) FU S 0 hS
  exact f_some hS10
abbrev rm_X7_insertByValue_l1 : Room := { frames := 3, cells := 0, slots := 0, locals := 65 }
theorem kY_X7_insertByValue : kY yX7_insertByValue cX7_insertByValue 3 none 1 := ⟨kw_1_10, kw_4_233, by decide, by decide, by decide +kernel⟩
def L_X7_insertByValue_l1_15 (c1 : Int32) (k6 : CS → Int32 → Option (CS)) : Nat → CS → Int32 → Option (CS) := lo2 fun rec4 S3 x2 =>
  (if x2 ≤ 0 then
  k6 S3 x2
 else
  chk (x2 - 1) 60 (
  bp (f_X1_isBetter S3 c1 (S3.2.1 37 (x2 - 1).toNatClampNeg)) (fun x8 =>
  (if x8 = true then
  chk (x2 - 1) 60 (
  chk x2 60 (lt (ca S3 37 (upd (S3.2.1 37) x2.toNatClampNeg (S3.2.1 37 (x2 - 1).toNatClampNeg))) fun S9 =>
  lt (x2 + (-1)) fun x10 =>
  rec4 S9 x10))
 else
  k6 S3 x2))))
set_option maxRecDepth 100000 in
set_option maxHeartbeats 4000000 in
theorem l_X7_insertByValue_l1_15 {X : KX} {g : KG} {q : Nat → Nat} {E : va_W} {res : CS} (C : kC X g cX7_insertByValue "MarkChains$Line" rm_X7_insertByValue_l1 3) (hR : ∀ (pc : Nat) (lv : List (Nat × Value)), decode cX7_insertByValue pc = .ok (.return_, 1) → jW X g (cx g q E res) 0 0 pc lv []) (c1 : Int32) (k6 : CS → Int32 → Option (CS)) (hk7 : ∀ (S11 : CS) (x12 : Int32), jJ X g res (cx g q E S11) 0 0 58 [(0, .ref (q 36)), (1, .int c1), (2, .int x12)] [] (k6 S11 x12)) : ∀ (n : Nat) (S3 : CS) (x2 : Int32), jJ X g res (cx g q E S3) 0 0 15 [(0, .ref (q 36)), (1, .int c1), (2, .int x2)] [] (L_X7_insertByValue_l1_15 c1 k6 n S3 x2) := by
  refine r_lo2 (fun S3 x2 => cx g q E S3) (fun S3 x2 => [(0, .ref (q 36)), (1, .int c1), (2, .int x2)]) (fun rec4 ih5 S3 x2 => ?_)
  refine r_iload_n (pc := 15) C dX7_insertByValue_15 2 rfl ?_
  refine r_if_le 58 (pc := 16) C dX7_insertByValue_16 (by decide) ?_ ?_
  · exact hk7 S3 x2
  · refine r_aload_n (pc := 19) C dX7_insertByValue_19 0 rfl ?_
    refine xg_l1_book (pc := 20) C kw_2_25 dX7_insertByValue_20 ?_
    refine r_iload_n (pc := 23) C dX7_insertByValue_23 1 rfl ?_
    refine r_aload_n (pc := 24) C dX7_insertByValue_24 0 rfl ?_
    refine xg_l1_numbers (pc := 25) C kw_2_26 dX7_insertByValue_25 ?_
    refine r_iload_n (pc := 28) C dX7_insertByValue_28 2 rfl ?_
    refine r_iconst (pc := 29) C dX7_insertByValue_29 (v := 1) (by decide) ?_
    refine r_isub (pc := 30) C dX7_insertByValue_30 ?_
    refine xl_l1_numbers (pc := 31) C dX7_insertByValue_31 ?_
    refine r_cVpz (As := [.int c1, .int (S3.2.1 37 (x2 - 1).toNatClampNeg)]) (st := []) (pc := 32) C (fun _ h => c_X1_isBetter h) kY_X1_isBetter kw_4_126 kw_4_127 kw_4_125 rfl ⟨Nat.le_of_ble_eq_true rfl, Nat.le_of_ble_eq_true rfl⟩ rfl rfl ⟨Nat.zero_le _, Nat.zero_le _⟩ 3 rfl rfl rfl (Nat.le_of_ble_eq_true rfl) dX7_insertByValue_32 (fun x8 => ?_)
    refine r_ifb_eq 58 (pc := 35) C dX7_insertByValue_35 (by decide) ?_ ?_
    · exact hk7 S3 x2
    · refine r_aload_n (pc := 38) C dX7_insertByValue_38 0 rfl ?_
      refine xg_l1_numbers (pc := 39) C kw_2_26 dX7_insertByValue_39 ?_
      refine r_iload_n (pc := 42) C dX7_insertByValue_42 2 rfl ?_
      refine r_aload_n (pc := 43) C dX7_insertByValue_43 0 rfl ?_
      refine xg_l1_numbers (pc := 44) C kw_2_26 dX7_insertByValue_44 ?_
      refine r_iload_n (pc := 47) C dX7_insertByValue_47 2 rfl ?_
      refine r_iconst (pc := 48) C dX7_insertByValue_48 (v := 1) (by decide) ?_
      refine r_isub (pc := 49) C dX7_insertByValue_49 ?_
      refine xl_l1_numbers (pc := 50) C dX7_insertByValue_50 ?_
      refine xs_l1_numbers (pc := 51) C dX7_insertByValue_51 (fun S9 => ?_)
      refine r_iinc (pc := 52) C dX7_insertByValue_52 (v := (-1)) (lv' := fun x10 => [(0, .ref (q 36)), (1, .int c1), (2, .int x10)]) 2 rfl (by decide) (by decide) [1, 2, 0] (fun _ => rfl) (fun x10 => ?_)
      refine r_goto 15 (pc := 55) C dX7_insertByValue_55 (by decide) ?_
      exact ih5 S9 x10
set_option maxRecDepth 100000 in
theorem v_X7_insertByValue_l1_15 {S0 : CS} {c1 : Int32} {k6 : CS → Int32 → Option (CS)} (hk7 : ∀ (S11 : CS) (x12 : Int32), (gI [21] [37] S0) S11 → jf (gI [21] [37] S0) id (k6 S11 x12)) : ∀ (n : Nat) (S3 : CS) (x2 : Int32), (gI [21] [37] S0) S3 → jf (gI [21] [37] S0) id (L_X7_insertByValue_l1_15 c1 k6 n S3 x2) := by
  refine f_lo2 (I := (gI [21] [37] S0)) (fun S3 x2 => S3) (fun rec4 ih5 S3 x2 hS3 => ?_)
  refine f_ite ?_ ?_
  · exact hk7 S3 x2 hS3
  · refine f_chk ?_
    refine f_bp (fun x8 => ?_)
    refine f_ite ?_ ?_
    · refine f_chk ?_
      refine f_chk (f_ltS (gI_ca hS3 (by decide)) (fun S9 hS9 => ?_))
      refine f_lt (fun x10 => ?_)
      exact ih5 S9 x10 hS9
    · exact hk7 S3 x2 hS3
def f_X7_insertByValue_l1 (S : CS) (a1 : Int32) : Option (CS) :=
  (if (S.1 21) < 60 then
  lt (S.1 21) fun x1 =>
  L_X7_insertByValue_l1_15 a1 (fun S13 x14 =>
  chk x14 60 (lt (ca S13 37 (upd (S13.2.1 37) x14.toNatClampNeg a1)) fun S15 =>
  lt (ci S15 21 ((S15.1 21) + 1)) fun S16 =>
  some S16)) FU S x1
 else
  some S)
set_option maxRecDepth 100000 in
set_option maxHeartbeats 4000000 in
theorem c_X7_insertByValue_l1 {g : KG} {q : Nat → Nat} {E : va_W} {S : CS} {a1 : Int32} {S' : CS} (h : f_X7_insertByValue_l1 S a1 = some S') : ∀ l, kM l yX7_insertByValue cX7_insertByValue 3 none rm_X7_insertByValue_l1 g [.ref (q 36), .int a1] (cx g q E S) (cx g q E S') (none) 0 0 := by
  refine k_open_v (own := "MarkChains$Line") (by decide) rfl (Nat.le_of_ble_eq_true rfl) (fun X C hR => ?_)
  refine (?_ : jJ X g (S' : CS) (cx g q E S) 0 0 0 [(0, .ref (q 36)), (1, .int a1)] [] (f_X7_insertByValue_l1 S a1)) h
  unfold f_X7_insertByValue_l1
  refine r_aload_n (pc := 0) C dX7_insertByValue_0 0 rfl ?_
  refine xg_l1_size (pc := 1) C kw_2_29 dX7_insertByValue_1 ?_
  refine r_bipush (pc := 4) C dX7_insertByValue_4 (v := 60) (by decide) ?_
  refine r_icmp_lt 10 (pc := 6) C dX7_insertByValue_6 (by decide) ?_ ?_
  · refine r_aload_n (pc := 10) C dX7_insertByValue_10 0 rfl ?_
    refine xg_l1_size (pc := 11) C kw_2_29 dX7_insertByValue_11 ?_
    refine r_istoreV_n (pc := 14) C dX7_insertByValue_14 (lv' := fun x1 => [(0, .ref (q 36)), (1, .int a1), (2, .int x1)]) (by decide) [1, 2, 0] (fun _ => rfl) (fun x1 => ?_)
    refine l_X7_insertByValue_l1_15 C hR a1 _ (fun S13 x14 => ?_) FU S x1
    refine r_aload_n (pc := 58) C dX7_insertByValue_58 0 rfl ?_
    refine xg_l1_numbers (pc := 59) C kw_2_26 dX7_insertByValue_59 ?_
    refine r_iload_n (pc := 62) C dX7_insertByValue_62 2 rfl ?_
    refine r_iload_n (pc := 63) C dX7_insertByValue_63 1 rfl ?_
    refine xs_l1_numbers (pc := 64) C dX7_insertByValue_64 (fun S15 => ?_)
    refine r_aload_n (pc := 65) C dX7_insertByValue_65 0 rfl ?_
    refine r_dup (pc := 66) C dX7_insertByValue_66 rfl ?_
    refine xg_l1_size (pc := 67) C kw_2_29 dX7_insertByValue_67 ?_
    refine r_iconst (pc := 70) C dX7_insertByValue_70 (v := 1) (by decide) ?_
    refine r_iadd (pc := 71) C dX7_insertByValue_71 ?_
    refine xp_l1_size (pc := 72) C kw_2_29 dX7_insertByValue_72 (fun S16 => ?_)
    exact r_retWV (wf := cx g q E) hR (pc := 75) dX7_insertByValue_75
  · exact r_retWV (wf := cx g q E) hR (pc := 9) dX7_insertByValue_9
set_option maxRecDepth 100000 in
theorem w_X7_insertByValue_l1 {S : CS} {a1 : Int32} {S' : CS} (h : f_X7_insertByValue_l1 S a1 = some S') : gI [21] [37] S S' := by
  have hS : gI [21] [37] S S := gI_rf
  refine (?_ : jf (gI [21] [37] S) id (f_X7_insertByValue_l1 S a1)) _ h
  unfold f_X7_insertByValue_l1
  refine f_ite ?_ ?_
  · refine f_lt (fun x1 => ?_)
    refine v_X7_insertByValue_l1_15 (fun S13 x14 hS13 => ?_) FU S x1 hS
    refine f_chk (f_ltS (gI_ca hS13 (by decide)) (fun S15 hS15 => ?_))
    refine f_ltS (gI_ci hS15 (by decide)) (fun S16 hS16 => ?_)
    exact f_some hS16
  · exact f_some hS
abbrev rm_X7_fillWithList_l1 : Room := { frames := 4, cells := 0, slots := 0, locals := 87 }
theorem kY_X7_fillWithList : kY yX7_fillWithList cX7_fillWithList 7 none 3 := ⟨kw_1_10, kw_4_226, by decide, by decide, by decide +kernel⟩
def L_X7_fillWithList_l1_11 (c1 : Int32) (c2 : Int32) (c3 : Int32) (k6 : CS → Option (CS)) : Nat → CS → Int32 → Option (CS) := lo2 fun rec4 S3 x2 =>
  (if (S3.1 6) ≤ x2 then
  k6 S3
 else
  chk x2 60 (
  lt (S3.2.1 24 x2.toNatClampNeg) fun x8 =>
  bp (f_X1_isListed S3 x8 c1 c2 c3) (fun x9 =>
  (if x9 = true then
  chk x8 60 (
  chk (S3.2.1 14 x8.toNatClampNeg) 16 (
  lt (S3.2.1 38 (S3.2.1 14 x8.toNatClampNeg).toNatClampNeg) fun x11 =>
  jn0 (chk x8 60 (
  chk (S3.2.1 14 x8.toNatClampNeg) 16 (lt (ca S3 38 (upd (S3.2.1 38) (S3.2.1 14 x8.toNatClampNeg).toNatClampNeg x8)) fun S12 =>
  lt (x2 + 1) fun x13 =>
  rec4 S12 x13))) (fun k14 =>
  (if x11 = (-1) then
  k14
 else
  bp (f_X1_isBetter S3 x8 x11) (fun x16 =>
  (if x16 = true then
  k14
 else
  lt (x2 + 1) fun x17 =>
  rec4 S3 x17))))))
 else
  lt (x2 + 1) fun x10 =>
  rec4 S3 x10))))
set_option maxRecDepth 100000 in
set_option maxHeartbeats 4000000 in
theorem l_X7_fillWithList_l1_11 {X : KX} {g : KG} {q : Nat → Nat} {E : va_W} {res : CS} (C : kC X g cX7_fillWithList "MarkChains$Line" rm_X7_fillWithList_l1 7) (hR : ∀ (pc : Nat) (lv : List (Nat × Value)), decode cX7_fillWithList pc = .ok (.return_, 1) → jW X g (cx g q E res) 0 0 pc lv []) (c1 : Int32) (c2 : Int32) (c3 : Int32) (k6 : CS → Option (CS)) (hk7 : ∀ (S18 : CS), jJ X g res (cx g q E S18) 0 0 110 [(0, .ref (q 36))] [] (k6 S18)) : ∀ (n : Nat) (S3 : CS) (x2 : Int32), jJ X g res (cx g q E S3) 0 0 11 [(0, .ref (q 36)), (1, .int c1), (2, .int c2), (3, .int c3), (4, .int x2)] [] (L_X7_fillWithList_l1_11 c1 c2 c3 k6 n S3 x2) := by
  refine r_lo2 (fun S3 x2 => cx g q E S3) (fun S3 x2 => [(0, .ref (q 36)), (1, .int c1), (2, .int c2), (3, .int c3), (4, .int x2)]) (fun rec4 ih5 S3 x2 => ?_)
  refine r_iload (pc := 11) C dX7_fillWithList_11 4 rfl ?_
  refine r_aload_n (pc := 13) C dX7_fillWithList_13 0 rfl ?_
  refine xg_l1_book (pc := 14) C kw_2_25 dX7_fillWithList_14 ?_
  refine xgN_bk_size (pc := 17) C knf_29 dX7_fillWithList_17 ?_
  refine r_icmp_ge 110 (pc := 20) C dX7_fillWithList_20 (by decide) ?_ ?_
  · refine r_sub (lv' := [(0, .ref (q 36))]) [0] rfl ?_
    exact hk7 S3
  · refine r_aload_n (pc := 23) C dX7_fillWithList_23 0 rfl ?_
    refine xg_l1_book (pc := 24) C kw_2_25 dX7_fillWithList_24 ?_
    refine xgN_bk_order (pc := 27) C knf_28 dX7_fillWithList_27 ?_
    refine r_iload (pc := 30) C dX7_fillWithList_30 4 rfl ?_
    refine xl_bk_order (pc := 32) C dX7_fillWithList_32 ?_
    refine r_istoreV (pc := 33) C dX7_fillWithList_33 (lv' := fun x8 => [(0, .ref (q 36)), (1, .int c1), (2, .int c2), (3, .int c3), (4, .int x2), (5, .int x8)]) (by decide) [1, 2, 3, 4, 5, 0] (fun _ => rfl) (fun x8 => ?_)
    refine r_aload_n (pc := 35) C dX7_fillWithList_35 0 rfl ?_
    refine xg_l1_book (pc := 36) C kw_2_25 dX7_fillWithList_36 ?_
    refine r_iload (pc := 39) C dX7_fillWithList_39 5 rfl ?_
    refine r_iload_n (pc := 41) C dX7_fillWithList_41 1 rfl ?_
    refine r_iload_n (pc := 42) C dX7_fillWithList_42 2 rfl ?_
    refine r_iload_n (pc := 43) C dX7_fillWithList_43 3 rfl ?_
    refine r_cVpz (As := [.int x8, .int c1, .int c2, .int c3]) (st := []) (pc := 44) C (fun _ h => c_X1_isListed h) kY_X1_isListed kw_4_121 kw_4_122 kw_4_120 rfl ⟨Nat.le_of_ble_eq_true rfl, Nat.le_of_ble_eq_true rfl⟩ rfl rfl ⟨Nat.zero_le _, Nat.zero_le _⟩ 3 rfl rfl rfl (Nat.le_of_ble_eq_true rfl) dX7_fillWithList_44 (fun x9 => ?_)
    refine r_ifb_eq 104 (pc := 47) C dX7_fillWithList_47 (by decide) ?_ ?_
    · refine r_iinc (pc := 104) C dX7_fillWithList_104 (v := 1) (lv' := fun x10 => [(0, .ref (q 36)), (1, .int c1), (2, .int c2), (3, .int c3), (4, .int x10), (5, .int x8)]) 4 rfl (by decide) (by decide) [1, 2, 3, 4, 0, 5] (fun _ => rfl) (fun x10 => ?_)
      refine r_goto 11 (pc := 107) C dX7_fillWithList_107 (by decide) ?_
      refine r_sub (lv' := [(0, .ref (q 36)), (1, .int c1), (2, .int c2), (3, .int c3), (4, .int x10)]) [0, 1, 2, 3, 4] rfl ?_
      exact ih5 S3 x10
    · refine r_aload_n (pc := 50) C dX7_fillWithList_50 0 rfl ?_
      refine xg_l1_bestOf (pc := 51) C kw_2_28 dX7_fillWithList_51 ?_
      refine r_aload_n (pc := 54) C dX7_fillWithList_54 0 rfl ?_
      refine xg_l1_book (pc := 55) C kw_2_25 dX7_fillWithList_55 ?_
      refine xgN_bk_athlete (pc := 58) C knf_18 dX7_fillWithList_58 ?_
      refine r_iload (pc := 61) C dX7_fillWithList_61 5 rfl ?_
      refine xl_bk_athlete (pc := 63) C dX7_fillWithList_63 ?_
      refine xl_l1_bestOf (pc := 64) C dX7_fillWithList_64 ?_
      refine r_istoreV (pc := 65) C dX7_fillWithList_65 (lv' := fun x11 => [(0, .ref (q 36)), (1, .int c1), (2, .int c2), (3, .int c3), (4, .int x2), (5, .int x8), (6, .int x11)]) (by decide) [1, 2, 3, 4, 5, 6, 0] (fun _ => rfl) (fun x11 => ?_)
      refine r_iload (pc := 67) C dX7_fillWithList_67 6 rfl ?_
      refine r_iconst (pc := 69) C dX7_fillWithList_69 (v := (-1)) (by decide) ?_
      refine r_jn0 87 (cx g q E S3) ([(0, .ref (q 36)), (1, .int c1), (2, .int c2), (3, .int c3), (4, .int x2), (5, .int x8)]) ([]) ?_ (fun k14 hk15 => ?_)
      · refine r_aload_n (pc := 87) C dX7_fillWithList_87 0 rfl ?_
        refine xg_l1_bestOf (pc := 88) C kw_2_28 dX7_fillWithList_88 ?_
        refine r_aload_n (pc := 91) C dX7_fillWithList_91 0 rfl ?_
        refine xg_l1_book (pc := 92) C kw_2_25 dX7_fillWithList_92 ?_
        refine xgN_bk_athlete (pc := 95) C knf_18 dX7_fillWithList_95 ?_
        refine r_iload (pc := 98) C dX7_fillWithList_98 5 rfl ?_
        refine xl_bk_athlete (pc := 100) C dX7_fillWithList_100 ?_
        refine r_iload (pc := 101) C dX7_fillWithList_101 5 rfl ?_
        refine xs_l1_bestOf (pc := 103) C dX7_fillWithList_103 (fun S12 => ?_)
        refine r_iinc (pc := 104) C dX7_fillWithList_104 (v := 1) (lv' := fun x13 => [(0, .ref (q 36)), (1, .int c1), (2, .int c2), (3, .int c3), (4, .int x13), (5, .int x8)]) 4 rfl (by decide) (by decide) [1, 2, 3, 4, 0, 5] (fun _ => rfl) (fun x13 => ?_)
        refine r_goto 11 (pc := 107) C dX7_fillWithList_107 (by decide) ?_
        refine r_sub (lv' := [(0, .ref (q 36)), (1, .int c1), (2, .int c2), (3, .int c3), (4, .int x13)]) [0, 1, 2, 3, 4] rfl ?_
        exact ih5 S12 x13
      · refine r_icmp_eq 87 (pc := 70) C dX7_fillWithList_70 (by decide) ?_ ?_
        · refine r_sub (lv' := [(0, .ref (q 36)), (1, .int c1), (2, .int c2), (3, .int c3), (4, .int x2), (5, .int x8)]) [0, 1, 2, 3, 4, 5] rfl ?_
          exact hk15
        · refine r_aload_n (pc := 73) C dX7_fillWithList_73 0 rfl ?_
          refine xg_l1_book (pc := 74) C kw_2_25 dX7_fillWithList_74 ?_
          refine r_iload (pc := 77) C dX7_fillWithList_77 5 rfl ?_
          refine r_iload (pc := 79) C dX7_fillWithList_79 6 rfl ?_
          refine r_cVpz (As := [.int x8, .int x11]) (st := []) (pc := 81) C (fun _ h => c_X1_isBetter h) kY_X1_isBetter kw_4_126 kw_4_127 kw_4_125 rfl ⟨Nat.le_of_ble_eq_true rfl, Nat.le_of_ble_eq_true rfl⟩ rfl rfl ⟨Nat.zero_le _, Nat.zero_le _⟩ 3 rfl rfl rfl (Nat.le_of_ble_eq_true rfl) dX7_fillWithList_81 (fun x16 => ?_)
          refine r_ifb_eq 104 (pc := 84) C dX7_fillWithList_84 (by decide) ?_ ?_
          · refine r_iinc (pc := 104) C dX7_fillWithList_104 (v := 1) (lv' := fun x17 => [(0, .ref (q 36)), (1, .int c1), (2, .int c2), (3, .int c3), (4, .int x17), (5, .int x8), (6, .int x11)]) 4 rfl (by decide) (by decide) [1, 2, 3, 4, 0, 5, 6] (fun _ => rfl) (fun x17 => ?_)
            refine r_goto 11 (pc := 107) C dX7_fillWithList_107 (by decide) ?_
            refine r_sub (lv' := [(0, .ref (q 36)), (1, .int c1), (2, .int c2), (3, .int c3), (4, .int x17)]) [0, 1, 2, 3, 4] rfl ?_
            exact ih5 S3 x17
          · refine r_sub (lv' := [(0, .ref (q 36)), (1, .int c1), (2, .int c2), (3, .int c3), (4, .int x2), (5, .int x8)]) [0, 1, 2, 3, 4, 5] rfl ?_
            exact hk15
set_option maxRecDepth 100000 in
theorem v_X7_fillWithList_l1_11 {S0 : CS} {c1 : Int32} {c2 : Int32} {c3 : Int32} {k6 : CS → Option (CS)} (hk7 : ∀ (S18 : CS), (gI [21] [37, 38] S0) S18 → jf (gI [21] [37, 38] S0) id (k6 S18)) : ∀ (n : Nat) (S3 : CS) (x2 : Int32), (gI [21] [37, 38] S0) S3 → jf (gI [21] [37, 38] S0) id (L_X7_fillWithList_l1_11 c1 c2 c3 k6 n S3 x2) := by
  refine f_lo2 (I := (gI [21] [37, 38] S0)) (fun S3 x2 => S3) (fun rec4 ih5 S3 x2 hS3 => ?_)
  refine f_ite ?_ ?_
  · exact hk7 S3 hS3
  · refine f_chk ?_
    refine f_lt (fun x8 => ?_)
    refine f_bp (fun x9 => ?_)
    refine f_ite ?_ ?_
    · refine f_chk ?_
      refine f_chk ?_
      refine f_lt (fun x11 => ?_)
      refine f_jm0 hS3 (fun  hS3 => ?_) (fun k14 hk15 => ?_)
      · refine f_chk ?_
        refine f_chk (f_ltS (gI_ca hS3 (by decide)) (fun S12 hS12 => ?_))
        refine f_lt (fun x13 => ?_)
        exact ih5 S12 x13 hS12
      · refine f_ite ?_ ?_
        · exact hk15 hS3
        · refine f_bp (fun x16 => ?_)
          refine f_ite ?_ ?_
          · exact hk15 hS3
          · refine f_lt (fun x17 => ?_)
            exact ih5 S3 x17 hS3
    · refine f_lt (fun x10 => ?_)
      exact ih5 S3 x10 hS3
def L_X7_fillWithList_l1_118 (k25 : CS → Option (CS)) : Nat → CS → Int32 → Option (CS) := lo2 fun rec23 S22 x21 =>
  (if (S22.1 6) ≤ x21 then
  k25 S22
 else
  chk x21 60 (
  lt (S22.2.1 24 x21.toNatClampNeg) fun x27 =>
  chk x27 60 (
  chk (S22.2.1 14 x27.toNatClampNeg) 16 (
  (if (S22.2.1 38 (S22.2.1 14 x27.toNatClampNeg).toNatClampNeg) = x27 then
  bp (f_X7_insertByValue_l1 S22 x27) (fun S29 =>
  lt (x21 + 1) fun x30 =>
  rec23 S29 x30)
 else
  lt (x21 + 1) fun x28 =>
  rec23 S22 x28)))))
set_option maxRecDepth 100000 in
set_option maxHeartbeats 4000000 in
theorem l_X7_fillWithList_l1_118 {X : KX} {g : KG} {q : Nat → Nat} {E : va_W} {res : CS} (C : kC X g cX7_fillWithList "MarkChains$Line" rm_X7_fillWithList_l1 7) (hR : ∀ (pc : Nat) (lv : List (Nat × Value)), decode cX7_fillWithList pc = .ok (.return_, 1) → jW X g (cx g q E res) 0 0 pc lv []) (k25 : CS → Option (CS)) (hk26 : ∀ (S31 : CS), jJ X g res (cx g q E S31) 0 0 174 [] [] (k25 S31)) : ∀ (n : Nat) (S22 : CS) (x21 : Int32), jJ X g res (cx g q E S22) 0 0 118 [(0, .ref (q 36)), (4, .int x21)] [] (L_X7_fillWithList_l1_118 k25 n S22 x21) := by
  refine r_lo2 (fun S22 x21 => cx g q E S22) (fun S22 x21 => [(0, .ref (q 36)), (4, .int x21)]) (fun rec23 ih24 S22 x21 => ?_)
  refine r_iload (pc := 118) C dX7_fillWithList_118 1 rfl ?_
  refine r_aload_n (pc := 120) C dX7_fillWithList_120 0 rfl ?_
  refine xg_l1_book (pc := 121) C kw_2_25 dX7_fillWithList_121 ?_
  refine xgN_bk_size (pc := 124) C knf_29 dX7_fillWithList_124 ?_
  refine r_icmp_ge 174 (pc := 127) C dX7_fillWithList_127 (by decide) ?_ ?_
  · refine r_sub (lv' := []) [] rfl ?_
    exact hk26 S22
  · refine r_aload_n (pc := 130) C dX7_fillWithList_130 0 rfl ?_
    refine xg_l1_book (pc := 131) C kw_2_25 dX7_fillWithList_131 ?_
    refine xgN_bk_order (pc := 134) C knf_28 dX7_fillWithList_134 ?_
    refine r_iload (pc := 137) C dX7_fillWithList_137 1 rfl ?_
    refine xl_bk_order (pc := 139) C dX7_fillWithList_139 ?_
    refine r_istoreV (pc := 140) C dX7_fillWithList_140 (lv' := fun x27 => [(0, .ref (q 36)), (4, .int x21), (5, .int x27)]) (by decide) [1, 2, 0] (fun _ => rfl) (fun x27 => ?_)
    refine r_aload_n (pc := 142) C dX7_fillWithList_142 0 rfl ?_
    refine xg_l1_bestOf (pc := 143) C kw_2_28 dX7_fillWithList_143 ?_
    refine r_aload_n (pc := 146) C dX7_fillWithList_146 0 rfl ?_
    refine xg_l1_book (pc := 147) C kw_2_25 dX7_fillWithList_147 ?_
    refine xgN_bk_athlete (pc := 150) C knf_18 dX7_fillWithList_150 ?_
    refine r_iload (pc := 153) C dX7_fillWithList_153 2 rfl ?_
    refine xl_bk_athlete (pc := 155) C dX7_fillWithList_155 ?_
    refine xl_l1_bestOf (pc := 156) C dX7_fillWithList_156 ?_
    refine r_iload (pc := 157) C dX7_fillWithList_157 2 rfl ?_
    refine r_icmp_ne 168 (pc := 159) C dX7_fillWithList_159 (by decide) ?_ ?_
    · refine r_iinc (pc := 168) C dX7_fillWithList_168 (v := 1) (lv' := fun x28 => [(0, .ref (q 36)), (4, .int x28), (5, .int x27)]) 1 rfl (by decide) (by decide) [1, 0, 2] (fun _ => rfl) (fun x28 => ?_)
      refine r_goto 118 (pc := 171) C dX7_fillWithList_171 (by decide) ?_
      refine r_sub (lv' := [(0, .ref (q 36)), (4, .int x28)]) [0, 1] rfl ?_
      exact ih24 S22 x28
    · refine r_aload_n (pc := 162) C dX7_fillWithList_162 0 rfl ?_
      refine r_iload (pc := 163) C dX7_fillWithList_163 2 rfl ?_
      refine r_cVwv (As := [.int x27]) (st := []) (wf := cx g q E) (pc := 165) C (fun _ h => c_X7_insertByValue_l1 h) kY_X7_insertByValue kw_4_232 kw_0_29 kw_4_230 rfl ⟨Nat.le_of_ble_eq_true rfl, Nat.le_of_ble_eq_true rfl⟩ rfl rfl ⟨Nat.zero_le _, Nat.zero_le _⟩ 35 rfl rfl rfl (Nat.le_of_ble_eq_true rfl) dX7_fillWithList_165 (fun S29 => ?_)
      refine r_iinc (pc := 168) C dX7_fillWithList_168 (v := 1) (lv' := fun x30 => [(0, .ref (q 36)), (4, .int x30), (5, .int x27)]) 1 rfl (by decide) (by decide) [1, 0, 2] (fun _ => rfl) (fun x30 => ?_)
      refine r_goto 118 (pc := 171) C dX7_fillWithList_171 (by decide) ?_
      refine r_sub (lv' := [(0, .ref (q 36)), (4, .int x30)]) [0, 1] rfl ?_
      exact ih24 S29 x30
set_option maxRecDepth 100000 in
theorem v_X7_fillWithList_l1_118 {S0 : CS} {k25 : CS → Option (CS)} (hk26 : ∀ (S31 : CS), (gI [21] [37, 38] S0) S31 → jf (gI [21] [37, 38] S0) id (k25 S31)) : ∀ (n : Nat) (S22 : CS) (x21 : Int32), (gI [21] [37, 38] S0) S22 → jf (gI [21] [37, 38] S0) id (L_X7_fillWithList_l1_118 k25 n S22 x21) := by
  refine f_lo2 (I := (gI [21] [37, 38] S0)) (fun S22 x21 => S22) (fun rec23 ih24 S22 x21 hS22 => ?_)
  refine f_ite ?_ ?_
  · exact hk26 S22 hS22
  · refine f_chk ?_
    refine f_lt (fun x27 => ?_)
    refine f_chk ?_
    refine f_chk ?_
    refine f_ite ?_ ?_
    · refine f_bpS (fun _ h => gI_tr hS22 (w_X7_insertByValue_l1 h) (by decide) (by decide)) (fun S29 hS29 => ?_)
      refine f_lt (fun x30 => ?_)
      exact ih24 S29 x30 hS29
    · refine f_lt (fun x28 => ?_)
      exact ih24 S22 x28 hS22
def f_X7_fillWithList_l1 (S : CS) (a1 : Int32) (a2 : Int32) (a3 : Int32) : Option (CS) :=
  bp (f_J7_fill_53178_l1_bestOf S (-1)) (fun S1 =>
  L_X7_fillWithList_l1_11 a1 a2 a3 (fun S19 =>
  lt (ci S19 21 0) fun S20 =>
  L_X7_fillWithList_l1_118 (fun S32 =>
  some S32) FU S20 0) FU S1 0)
set_option maxRecDepth 100000 in
set_option maxHeartbeats 4000000 in
theorem c_X7_fillWithList_l1 {g : KG} {q : Nat → Nat} {E : va_W} {S : CS} {a1 : Int32} {a2 : Int32} {a3 : Int32} {S' : CS} (h : f_X7_fillWithList_l1 S a1 a2 a3 = some S') : ∀ l, kM l yX7_fillWithList cX7_fillWithList 7 none rm_X7_fillWithList_l1 g [.ref (q 36), .int a1, .int a2, .int a3] (cx g q E S) (cx g q E S') (none) 0 0 := by
  refine k_open_v (own := "MarkChains$Line") (by decide) rfl (Nat.le_of_ble_eq_true rfl) (fun X C hR => ?_)
  refine (?_ : jJ X g (S' : CS) (cx g q E S) 0 0 0 [(0, .ref (q 36)), (1, .int a1), (2, .int a2), (3, .int a3)] [] (f_X7_fillWithList_l1 S a1 a2 a3)) h
  unfold f_X7_fillWithList_l1
  refine r_aload_n (pc := 0) C dX7_fillWithList_0 0 rfl ?_
  refine xg_l1_bestOf (pc := 1) C kw_2_28 dX7_fillWithList_1 ?_
  refine r_iconst (pc := 4) C dX7_fillWithList_4 (v := (-1)) (by decide) ?_
  refine r_cSwv (As := [.ref (q 38), .int (-1)]) (st := []) (wf := cx g q E) (pc := 5) C (fun _ h => c_J7_fill_53178_l1_bestOf h) kY_J7_fill_53178 kw_4_228 kw_4_227 rfl ⟨Nat.le_of_ble_eq_true rfl, Nat.le_of_ble_eq_true rfl⟩ rfl rfl ⟨Nat.zero_le _, Nat.zero_le _⟩ rfl (Nat.le_of_ble_eq_true rfl) dX7_fillWithList_5 (fun S1 => ?_)
  refine r_iconst (pc := 8) C dX7_fillWithList_8 (v := 0) (by decide) ?_
  refine r_istore (pc := 9) C dX7_fillWithList_9 (lv' := [(0, .ref (q 36)), (1, .int a1), (2, .int a2), (3, .int a3), (4, .int 0)]) (by decide) [1, 2, 3, 4, 0] rfl ?_
  refine l_X7_fillWithList_l1_11 C hR a1 a2 a3 _ (fun S19 => ?_) FU S1 0
  refine r_aload_n (pc := 110) C dX7_fillWithList_110 0 rfl ?_
  refine r_iconst (pc := 111) C dX7_fillWithList_111 (v := 0) (by decide) ?_
  refine xp_l1_size (pc := 112) C kw_2_29 dX7_fillWithList_112 (fun S20 => ?_)
  refine r_iconst (pc := 115) C dX7_fillWithList_115 (v := 0) (by decide) ?_
  refine r_istore (pc := 116) C dX7_fillWithList_116 (lv' := [(0, .ref (q 36)), (4, .int 0)]) (by decide) [1, 0] rfl ?_
  refine l_X7_fillWithList_l1_118 C hR _ (fun S32 => ?_) FU S20 0
  exact r_retWV (wf := cx g q E) hR (pc := 174) dX7_fillWithList_174
set_option maxRecDepth 100000 in
theorem w_X7_fillWithList_l1 {S : CS} {a1 : Int32} {a2 : Int32} {a3 : Int32} {S' : CS} (h : f_X7_fillWithList_l1 S a1 a2 a3 = some S') : gI [21] [37, 38] S S' := by
  have hS : gI [21] [37, 38] S S := gI_rf
  refine (?_ : jf (gI [21] [37, 38] S) id (f_X7_fillWithList_l1 S a1 a2 a3)) _ h
  unfold f_X7_fillWithList_l1
  refine f_bpS (fun _ h => gI_tr hS (w_J7_fill_53178_l1_bestOf h) (by decide) (by decide)) (fun S1 hS1 => ?_)
  refine v_X7_fillWithList_l1_11 (fun S19 hS19 => ?_) FU S1 0 hS1
  refine f_ltS (gI_ci hS19 (by decide)) (fun S20 hS20 => ?_)
  refine v_X7_fillWithList_l1_118 (fun S32 hS32 => ?_) FU S20 0 hS20
  exact f_some hS32
abbrev rm_X11_list : Room := { frames := 5, cells := 0, slots := 0, locals := 113 }
theorem kY_X11_list : kY yX11_list cX11_list 5 (some .int) 4 := ⟨kw_1_1, kw_4_222, by decide, by decide, by decide +kernel⟩
def f_X11_list (S : CS) (a1 : Int32) (a2 : Int32) (a3 : Int32) (a4 : Int32) : Option (Int32 × CS) :=
  bp (f_X11_isAsked S a1 a2 a3) (fun x1 =>
  (if x1 = true then
  bp (f_X7_fillWithList_l1 S a1 a2 a3) (fun S2 =>
  bp (f_X7_countOrPick_l1 S2 a4) (fun x3 =>
  some (x3, S2)))
 else
  some ((-2), S)))
set_option maxRecDepth 100000 in
set_option maxHeartbeats 4000000 in
theorem c_X11_list {g : KG} {q : Nat → Nat} {E : va_W} {S : CS} {a1 : Int32} {a2 : Int32} {a3 : Int32} {a4 : Int32} {r : Int32} {S' : CS} (h : f_X11_list S a1 a2 a3 a4 = some (r, S')) : ∀ l, kM l yX11_list cX11_list 5 (some .int) rm_X11_list g [.ref (q 0), .int a1, .int a2, .int a3, .int a4] (cx g q E S) (cx g q E S') (some (.int r)) 0 0 := by
  refine k_open_i (own := "MarkChains") (by decide) rfl (Nat.le_of_ble_eq_true rfl) (fun X C hR => ?_)
  refine (?_ : jJ X g ((r, S') : Int32 × CS) (cx g q E S) 0 0 0 [(0, .ref (q 0)), (1, .int a1), (2, .int a2), (3, .int a3), (4, .int a4)] [] (f_X11_list S a1 a2 a3 a4)) h
  unfold f_X11_list
  refine r_aload_n (pc := 0) C dX11_list_0 0 rfl ?_
  refine r_iload_n (pc := 1) C dX11_list_1 1 rfl ?_
  refine r_iload_n (pc := 2) C dX11_list_2 2 rfl ?_
  refine r_iload_n (pc := 3) C dX11_list_3 3 rfl ?_
  refine r_cVpz (As := [.int a1, .int a2, .int a3]) (st := []) (pc := 4) C (fun _ h => c_X11_isAsked h) kY_X11_isAsked kw_4_111 kw_0_25 kw_4_109 rfl ⟨Nat.le_of_ble_eq_true rfl, Nat.le_of_ble_eq_true rfl⟩ rfl rfl ⟨Nat.zero_le _, Nat.zero_le _⟩ 0 rfl rfl rfl (Nat.le_of_ble_eq_true rfl) dX11_list_4 (fun x1 => ?_)
  refine r_ifb_ne 13 (pc := 7) C dX11_list_7 (by decide) ?_ ?_
  · refine r_aload_n (pc := 13) C dX11_list_13 0 rfl ?_
    refine xg_x_line (pc := 14) C kw_2_80 dX11_list_14 ?_
    refine r_iload_n (pc := 17) C dX11_list_17 1 rfl ?_
    refine r_iload_n (pc := 18) C dX11_list_18 2 rfl ?_
    refine r_iload_n (pc := 19) C dX11_list_19 3 rfl ?_
    refine r_cVwv (As := [.int a1, .int a2, .int a3]) (st := []) (wf := cx g q E) (pc := 20) C (fun _ h => c_X7_fillWithList_l1 h) kY_X7_fillWithList kw_4_224 kw_4_225 kw_4_223 rfl ⟨Nat.le_of_ble_eq_true rfl, Nat.le_of_ble_eq_true rfl⟩ rfl rfl ⟨Nat.zero_le _, Nat.zero_le _⟩ 35 rfl rfl rfl (Nat.le_of_ble_eq_true rfl) dX11_list_20 (fun S2 => ?_)
    refine r_aload_n (pc := 23) C dX11_list_23 0 rfl ?_
    refine xg_x_line (pc := 24) C kw_2_80 dX11_list_24 ?_
    refine r_iload (pc := 27) C dX11_list_27 4 rfl ?_
    refine r_cVpi (As := [.int a4]) (st := []) (pc := 29) C (fun _ h => c_X7_countOrPick_l1 h) kY_X7_countOrPick kw_4_142 kw_4_143 kw_4_141 rfl ⟨Nat.le_of_ble_eq_true rfl, Nat.le_of_ble_eq_true rfl⟩ rfl rfl ⟨Nat.zero_le _, Nat.zero_le _⟩ 35 rfl rfl rfl (Nat.le_of_ble_eq_true rfl) dX11_list_29 (fun x3 => ?_)
    exact r_retWI (wf := cx g q E) hR (pc := 32) dX11_list_32
  · refine r_bipush (pc := 10) C dX11_list_10 (v := (-2)) (by decide) ?_
    exact r_retWI (wf := cx g q E) hR (pc := 12) dX11_list_12
set_option maxRecDepth 100000 in
theorem w_X11_list {S : CS} {a1 : Int32} {a2 : Int32} {a3 : Int32} {a4 : Int32} {r : Int32} {S' : CS} (h : f_X11_list S a1 a2 a3 a4 = some (r, S')) : gI [21] [37, 38] S S' := by
  have hS : gI [21] [37, 38] S S := gI_rf
  refine (?_ : jf (gI [21] [37, 38] S) Prod.snd (f_X11_list S a1 a2 a3 a4)) _ h
  unfold f_X11_list
  refine f_bp (fun x1 => ?_)
  refine f_ite ?_ ?_
  · refine f_bpS (fun _ h => gI_tr hS (w_X7_fillWithList_l1 h) (by decide) (by decide)) (fun S2 hS2 => ?_)
    refine f_bp (fun x3 => ?_)
    exact f_some hS2
  · exact f_some hS
abbrev rm_X11_rank : Room := { frames := 5, cells := 0, slots := 0, locals := 113 }
theorem kY_X11_rank : kY yX11_rank cX11_rank 3 (some .int) 2 := ⟨kw_1_1, kw_4_237, by decide, by decide, by decide +kernel⟩
def f_X11_rank (S : CS) (a1 : Int32) (a2 : Int32) : Option (Int32 × CS) :=
  bp (f_X11_isMarkAndScope S a1 a2) (fun x1 =>
  (if x1 = true then
  chk a1 60 (
  bp (f_X7_fillWithList_l1 S (S.2.1 13 a1.toNatClampNeg) a2 (S.1 0)) (fun S2 =>
  bp (f_X7_placeOf_l1 S2 a1) (fun x3 =>
  some (x3, S2))))
 else
  some ((-2), S)))
set_option maxRecDepth 100000 in
set_option maxHeartbeats 4000000 in
theorem c_X11_rank {g : KG} {q : Nat → Nat} {E : va_W} {S : CS} {a1 : Int32} {a2 : Int32} {r : Int32} {S' : CS} (h : f_X11_rank S a1 a2 = some (r, S')) : ∀ l, kM l yX11_rank cX11_rank 3 (some .int) rm_X11_rank g [.ref (q 0), .int a1, .int a2] (cx g q E S) (cx g q E S') (some (.int r)) 0 0 := by
  refine k_open_i (own := "MarkChains") (by decide) rfl (Nat.le_of_ble_eq_true rfl) (fun X C hR => ?_)
  refine (?_ : jJ X g ((r, S') : Int32 × CS) (cx g q E S) 0 0 0 [(0, .ref (q 0)), (1, .int a1), (2, .int a2)] [] (f_X11_rank S a1 a2)) h
  unfold f_X11_rank
  refine r_aload_n (pc := 0) C dX11_rank_0 0 rfl ?_
  refine r_iload_n (pc := 1) C dX11_rank_1 1 rfl ?_
  refine r_iload_n (pc := 2) C dX11_rank_2 2 rfl ?_
  refine r_cVpz (As := [.int a1, .int a2]) (st := []) (pc := 3) C (fun _ h => c_X11_isMarkAndScope h) kY_X11_isMarkAndScope kw_4_90 kw_0_23 kw_4_88 rfl ⟨Nat.le_of_ble_eq_true rfl, Nat.le_of_ble_eq_true rfl⟩ rfl rfl ⟨Nat.zero_le _, Nat.zero_le _⟩ 0 rfl rfl rfl (Nat.le_of_ble_eq_true rfl) dX11_rank_3 (fun x1 => ?_)
  refine r_ifb_ne 12 (pc := 6) C dX11_rank_6 (by decide) ?_ ?_
  · refine r_aload_n (pc := 12) C dX11_rank_12 0 rfl ?_
    refine xg_x_line (pc := 13) C kw_2_80 dX11_rank_13 ?_
    refine r_aload_n (pc := 16) C dX11_rank_16 0 rfl ?_
    refine xg_x_book (pc := 17) C kw_2_75 dX11_rank_17 ?_
    refine xgN_bk_event (pc := 20) C knf_17 dX11_rank_20 ?_
    refine r_iload_n (pc := 23) C dX11_rank_23 1 rfl ?_
    refine xl_bk_event (pc := 24) C dX11_rank_24 ?_
    refine r_iload_n (pc := 25) C dX11_rank_25 2 rfl ?_
    refine r_aload_n (pc := 26) C dX11_rank_26 0 rfl ?_
    refine xg_x_today (pc := 27) C kw_2_86 dX11_rank_27 ?_
    refine r_cVwv (As := [.int (S.2.1 13 a1.toNatClampNeg), .int a2, .int (S.1 0)]) (st := []) (wf := cx g q E) (pc := 30) C (fun _ h => c_X7_fillWithList_l1 h) kY_X7_fillWithList kw_4_224 kw_4_225 kw_4_223 rfl ⟨Nat.le_of_ble_eq_true rfl, Nat.le_of_ble_eq_true rfl⟩ rfl rfl ⟨Nat.zero_le _, Nat.zero_le _⟩ 35 rfl rfl rfl (Nat.le_of_ble_eq_true rfl) dX11_rank_30 (fun S2 => ?_)
    refine r_aload_n (pc := 33) C dX11_rank_33 0 rfl ?_
    refine xg_x_line (pc := 34) C kw_2_80 dX11_rank_34 ?_
    refine r_iload_n (pc := 37) C dX11_rank_37 1 rfl ?_
    refine r_cVpi (As := [.int a1]) (st := []) (pc := 38) C (fun _ h => c_X7_placeOf_l1 h) kY_X7_placeOf kw_4_212 kw_4_213 kw_4_238 rfl ⟨Nat.le_of_ble_eq_true rfl, Nat.le_of_ble_eq_true rfl⟩ rfl rfl ⟨Nat.zero_le _, Nat.zero_le _⟩ 35 rfl rfl rfl (Nat.le_of_ble_eq_true rfl) dX11_rank_38 (fun x3 => ?_)
    exact r_retWI (wf := cx g q E) hR (pc := 41) dX11_rank_41
  · refine r_bipush (pc := 9) C dX11_rank_9 (v := (-2)) (by decide) ?_
    exact r_retWI (wf := cx g q E) hR (pc := 11) dX11_rank_11
set_option maxRecDepth 100000 in
theorem w_X11_rank {S : CS} {a1 : Int32} {a2 : Int32} {r : Int32} {S' : CS} (h : f_X11_rank S a1 a2 = some (r, S')) : gI [21] [37, 38] S S' := by
  have hS : gI [21] [37, 38] S S := gI_rf
  refine (?_ : jf (gI [21] [37, 38] S) Prod.snd (f_X11_rank S a1 a2)) _ h
  unfold f_X11_rank
  refine f_bp (fun x1 => ?_)
  refine f_ite ?_ ?_
  · refine f_chk ?_
    refine f_bpS (fun _ h => gI_tr hS (w_X7_fillWithList_l1 h) (by decide) (by decide)) (fun S2 hS2 => ?_)
    refine f_bp (fun x3 => ?_)
    exact f_some hS2
  · exact f_some hS
abbrev rm_X11_wished : Room := { frames := 5, cells := 0, slots := 0, locals := 117 }
theorem kY_X11_wished : kY yX11_wished cX11_wished 5 (some .int) 3 := ⟨kw_1_1, kw_5_2, by decide, by decide, by decide +kernel⟩
def f_X11_wished (S : CS) (a1 : Int32) (a2 : Int32) (a3 : Int32) : Option (Int32 × CS) :=
  bw (f_X11_fillChain S a1 a2 a3) (fun x1 S2 =>
  (if x1 = true then
  (if (S2.1 21) = 0 then
  some ((-1), S2)
 else
  bp (f_X7_lastValue_l1 S2) (fun x3 =>
  bp (f_X1_isMoreBetter S2 a1) (fun x4 =>
  jn1 (fun (x5 : Int32) =>
  lt (x3 + x5) fun x6 =>
  (if x6 < 1 then
  some (0, S2)
 else
  (if x6 ≤ 1000000 then
  some (x6, S2)
 else
  some (0, S2)))) (fun k7 =>
  (if x4 = true then
  k7 1
 else
  k7 (-1))))))
 else
  some ((-2), S2)))
set_option maxRecDepth 100000 in
set_option maxHeartbeats 4000000 in
theorem c_X11_wished {g : KG} {q : Nat → Nat} {E : va_W} {S : CS} {a1 : Int32} {a2 : Int32} {a3 : Int32} {r : Int32} {S' : CS} (h : f_X11_wished S a1 a2 a3 = some (r, S')) : ∀ l, kM l yX11_wished cX11_wished 5 (some .int) rm_X11_wished g [.ref (q 0), .int a1, .int a2, .int a3] (cx g q E S) (cx g q E S') (some (.int r)) 0 0 := by
  refine k_open_i (own := "MarkChains") (by decide) rfl (Nat.le_of_ble_eq_true rfl) (fun X C hR => ?_)
  refine (?_ : jJ X g ((r, S') : Int32 × CS) (cx g q E S) 0 0 0 [(0, .ref (q 0)), (1, .int a1), (2, .int a2), (3, .int a3)] [] (f_X11_wished S a1 a2 a3)) h
  unfold f_X11_wished
  refine r_aload_n (pc := 0) C dX11_wished_0 0 rfl ?_
  refine r_iload_n (pc := 1) C dX11_wished_1 1 rfl ?_
  refine r_iload_n (pc := 2) C dX11_wished_2 2 rfl ?_
  refine r_iload_n (pc := 3) C dX11_wished_3 3 rfl ?_
  refine r_cVwz (As := [.int a1, .int a2, .int a3]) (st := []) (wf := cx g q E) (pc := 4) C (fun _ _ h => c_X11_fillChain h) kY_X11_fillChain kw_4_107 kw_0_24 kw_4_105 rfl ⟨Nat.le_of_ble_eq_true rfl, Nat.le_of_ble_eq_true rfl⟩ rfl rfl ⟨Nat.zero_le _, Nat.zero_le _⟩ 0 rfl rfl rfl (Nat.le_of_ble_eq_true rfl) dX11_wished_4 (fun x1 S2 => ?_)
  refine r_ifb_ne 13 (pc := 7) C dX11_wished_7 (by decide) ?_ ?_
  · refine r_aload_n (pc := 13) C dX11_wished_13 0 rfl ?_
    refine xg_x_line (pc := 14) C kw_2_80 dX11_wished_14 ?_
    refine xgN_l1_size (pc := 17) C knf_37 dX11_wished_17 ?_
    refine r_if_ne 25 (pc := 20) C dX11_wished_20 (by decide) ?_ ?_
    · refine r_aload_n (pc := 25) C dX11_wished_25 0 rfl ?_
      refine xg_x_line (pc := 26) C kw_2_80 dX11_wished_26 ?_
      refine r_cVpi (As := []) (st := []) (pc := 29) C (fun _ h => c_X7_lastValue_l1 h) kY_X7_lastValue kw_4_150 kw_4_151 kw_4_149 rfl ⟨Nat.le_of_ble_eq_true rfl, Nat.le_of_ble_eq_true rfl⟩ rfl rfl ⟨Nat.zero_le _, Nat.zero_le _⟩ 35 rfl rfl rfl (Nat.le_of_ble_eq_true rfl) dX11_wished_29 (fun x3 => ?_)
      refine r_aload_n (pc := 32) C dX11_wished_32 0 rfl ?_
      refine xg_x_book (pc := 33) C kw_2_75 dX11_wished_33 ?_
      refine r_iload_n (pc := 36) C dX11_wished_36 1 rfl ?_
      refine r_cVpz (As := [.int a1]) (st := [.int x3]) (pc := 37) C (fun _ h => c_X1_isMoreBetter h) kY_X1_isMoreBetter kw_4_134 kw_4_135 kw_5_3 rfl ⟨Nat.le_of_ble_eq_true rfl, Nat.le_of_ble_eq_true rfl⟩ rfl rfl ⟨Nat.zero_le _, Nat.zero_le _⟩ 3 rfl rfl rfl (Nat.le_of_ble_eq_true rfl) dX11_wished_37 (fun x4 => ?_)
      refine r_jn1 48 (fun (x5 : Int32) => cx g q E S2) (fun (x5 : Int32) => []) (fun (x5 : Int32) => [.int x5, .int x3]) (fun x5 => ?_) (fun k7 hk8 => ?_)
      · refine r_iadd (pc := 48) C dX11_wished_48 ?_
        refine r_istoreV (pc := 49) C dX11_wished_49 (lv' := fun x6 => [(4, .int x6)]) (by decide) [0] (fun _ => rfl) (fun x6 => ?_)
        refine r_iload (pc := 51) C dX11_wished_51 0 rfl ?_
        refine r_iconst (pc := 53) C dX11_wished_53 (v := 1) (by decide) ?_
        refine r_icmp_lt 65 (pc := 54) C dX11_wished_54 (by decide) ?_ ?_
        · refine r_iconst (pc := 65) C dX11_wished_65 (v := 0) (by decide) ?_
          refine r_goto 71 (pc := 66) C dX11_wished_66 (by decide) ?_
          exact r_retWI (wf := cx g q E) hR (pc := 71) dX11_wished_71
        · refine r_iload (pc := 57) C dX11_wished_57 0 rfl ?_
          refine r_ldcw (pc := 59) C dX11_wished_59 kw_5_4 ?_
          refine r_icmp_le 69 (pc := 62) C dX11_wished_62 (by decide) ?_ ?_
          · refine r_iload (pc := 69) C dX11_wished_69 0 rfl ?_
            exact r_retWI (wf := cx g q E) hR (pc := 71) dX11_wished_71
          · refine r_iconst (pc := 65) C dX11_wished_65 (v := 0) (by decide) ?_
            refine r_goto 71 (pc := 66) C dX11_wished_66 (by decide) ?_
            exact r_retWI (wf := cx g q E) hR (pc := 71) dX11_wished_71
      · refine r_ifb_eq 47 (pc := 40) C dX11_wished_40 (by decide) ?_ ?_
        · refine r_iconst (pc := 47) C dX11_wished_47 (v := (-1)) (by decide) ?_
          refine r_sub (lv' := []) [] rfl ?_
          exact hk8 (-1)
        · refine r_iconst (pc := 43) C dX11_wished_43 (v := 1) (by decide) ?_
          refine r_goto 48 (pc := 44) C dX11_wished_44 (by decide) ?_
          refine r_sub (lv' := []) [] rfl ?_
          exact hk8 1
    · refine r_iconst (pc := 23) C dX11_wished_23 (v := (-1)) (by decide) ?_
      exact r_retWI (wf := cx g q E) hR (pc := 24) dX11_wished_24
  · refine r_bipush (pc := 10) C dX11_wished_10 (v := (-2)) (by decide) ?_
    exact r_retWI (wf := cx g q E) hR (pc := 12) dX11_wished_12
set_option maxRecDepth 100000 in
theorem w_X11_wished {S : CS} {a1 : Int32} {a2 : Int32} {a3 : Int32} {r : Int32} {S' : CS} (h : f_X11_wished S a1 a2 a3 = some (r, S')) : gI [21] [37] S S' := by
  have hS : gI [21] [37] S S := gI_rf
  refine (?_ : jf (gI [21] [37] S) Prod.snd (f_X11_wished S a1 a2 a3)) _ h
  unfold f_X11_wished
  refine f_bwS (fun _ _ h => gI_tr hS (w_X11_fillChain h) (by decide) (by decide)) (fun x1 S2 hS2 => ?_)
  refine f_ite ?_ ?_
  · refine f_ite ?_ ?_
    · exact f_some hS2
    · refine f_bp (fun x3 => ?_)
      refine f_bp (fun x4 => ?_)
      refine f_jm1 hS2 (fun x5 hS2 => ?_) (fun k7 hk8 => ?_)
      · refine f_lt (fun x6 => ?_)
        refine f_ite ?_ ?_
        · exact f_some hS2
        · refine f_ite ?_ ?_
          · exact f_some hS2
          · exact f_some hS2
      · refine f_ite ?_ ?_
        · exact hk8 1 hS2
        · exact hk8 (-1) hS2
  · exact f_some hS2
abbrev rm_X1_firstBetterAhead : Room := { frames := 3, cells := 0, slots := 0, locals := 68 }
theorem kY_X1_firstBetterAhead : kY yX1_firstBetterAhead cX1_firstBetterAhead 6 (some .int) 3 := ⟨kw_1_3, kw_5_12, by decide, by decide, by decide +kernel⟩
def L_X1_firstBetterAhead_3 (S : CS) (c1 : Int32) (c2 : Int32) (c3 : Int32) (k4 : Option (Int32)) : Nat → Int32 → Option (Int32) := lo1 fun rec2 x1 =>
  (if (S.1 6) ≤ x1 then
  k4
 else
  chk x1 60 (
  (if (S.2.1 24 x1.toNatClampNeg) = c1 then
  k4
 else
  chk x1 60 (
  lt (S.2.1 24 x1.toNatClampNeg) fun x6 =>
  chk c1 60 (
  bp (f_X1_isListed S x6 (S.2.1 13 c1.toNatClampNeg) c2 c3) (fun x7 =>
  (if x7 = true then
  bp (f_X1_isBetter S x6 c1) (fun x9 =>
  (if x9 = true then
  some x6
 else
  lt (x1 + 1) fun x10 =>
  rec2 x10))
 else
  lt (x1 + 1) fun x8 =>
  rec2 x8)))))))
set_option maxRecDepth 100000 in
set_option maxHeartbeats 4000000 in
theorem l_X1_firstBetterAhead_3 {X : KX} {g : KG} {q : Nat → Nat} {E : va_W} {res : Int32} {S : CS} (C : kC X g cX1_firstBetterAhead "MarkChains$Book" rm_X1_firstBetterAhead 6) (hR : ∀ (pc : Nat) (lv : List (Nat × Value)), decode cX1_firstBetterAhead pc = .ok (.ireturn, 1) → jW X g (cx g q E S) 0 0 pc lv [.int res]) (c1 : Int32) (c2 : Int32) (c3 : Int32) (k4 : Option (Int32)) (hk5 : jJ X g res (cx g q E S) 0 0 68 [] [] k4) : ∀ (n : Nat) (x1 : Int32), jJ X g res (cx g q E S) 0 0 3 [(0, .ref (q 3)), (1, .int c1), (2, .int c2), (3, .int c3), (4, .int x1)] [] (L_X1_firstBetterAhead_3 S c1 c2 c3 k4 n x1) := by
  refine r_lo1 (fun x1 => cx g q E S) (fun x1 => [(0, .ref (q 3)), (1, .int c1), (2, .int c2), (3, .int c3), (4, .int x1)]) (fun rec2 ih3 x1 => ?_)
  refine r_iload (pc := 3) C dX1_firstBetterAhead_3 4 rfl ?_
  refine r_aload_n (pc := 5) C dX1_firstBetterAhead_5 0 rfl ?_
  refine xg_bk_size (pc := 6) C kw_1_125 dX1_firstBetterAhead_6 ?_
  refine r_icmp_ge 68 (pc := 9) C dX1_firstBetterAhead_9 (by decide) ?_ ?_
  · refine r_sub (lv' := []) [] rfl ?_
    exact hk5
  · refine r_aload_n (pc := 12) C dX1_firstBetterAhead_12 0 rfl ?_
    refine xg_bk_order (pc := 13) C kw_1_123 dX1_firstBetterAhead_13 ?_
    refine r_iload (pc := 16) C dX1_firstBetterAhead_16 4 rfl ?_
    refine xl_bk_order (pc := 18) C dX1_firstBetterAhead_18 ?_
    refine r_iload_n (pc := 19) C dX1_firstBetterAhead_19 1 rfl ?_
    refine r_icmp_eq 68 (pc := 20) C dX1_firstBetterAhead_20 (by decide) ?_ ?_
    · refine r_sub (lv' := []) [] rfl ?_
      exact hk5
    · refine r_aload_n (pc := 23) C dX1_firstBetterAhead_23 0 rfl ?_
      refine xg_bk_order (pc := 24) C kw_1_123 dX1_firstBetterAhead_24 ?_
      refine r_iload (pc := 27) C dX1_firstBetterAhead_27 4 rfl ?_
      refine xl_bk_order (pc := 29) C dX1_firstBetterAhead_29 ?_
      refine r_istoreV (pc := 30) C dX1_firstBetterAhead_30 (lv' := fun x6 => [(0, .ref (q 3)), (1, .int c1), (2, .int c2), (3, .int c3), (4, .int x1), (5, .int x6)]) (by decide) [1, 2, 3, 4, 5, 0] (fun _ => rfl) (fun x6 => ?_)
      refine r_aload_n (pc := 32) C dX1_firstBetterAhead_32 0 rfl ?_
      refine r_iload (pc := 33) C dX1_firstBetterAhead_33 5 rfl ?_
      refine r_aload_n (pc := 35) C dX1_firstBetterAhead_35 0 rfl ?_
      refine xg_bk_event (pc := 36) C kw_1_101 dX1_firstBetterAhead_36 ?_
      refine r_iload_n (pc := 39) C dX1_firstBetterAhead_39 1 rfl ?_
      refine xl_bk_event (pc := 40) C dX1_firstBetterAhead_40 ?_
      refine r_iload_n (pc := 41) C dX1_firstBetterAhead_41 2 rfl ?_
      refine r_iload_n (pc := 42) C dX1_firstBetterAhead_42 3 rfl ?_
      refine r_cVpz (As := [.int x6, .int (S.2.1 13 c1.toNatClampNeg), .int c2, .int c3]) (st := []) (pc := 43) C (fun _ h => c_X1_isListed h) kY_X1_isListed kw_4_121 kw_4_122 kw_5_13 rfl ⟨Nat.le_of_ble_eq_true rfl, Nat.le_of_ble_eq_true rfl⟩ rfl rfl ⟨Nat.zero_le _, Nat.zero_le _⟩ 3 rfl rfl rfl (Nat.le_of_ble_eq_true rfl) dX1_firstBetterAhead_43 (fun x7 => ?_)
      refine r_ifb_eq 62 (pc := 46) C dX1_firstBetterAhead_46 (by decide) ?_ ?_
      · refine r_iinc (pc := 62) C dX1_firstBetterAhead_62 (v := 1) (lv' := fun x8 => [(0, .ref (q 3)), (1, .int c1), (2, .int c2), (3, .int c3), (4, .int x8), (5, .int x6)]) 4 rfl (by decide) (by decide) [1, 2, 3, 4, 0, 5] (fun _ => rfl) (fun x8 => ?_)
        refine r_goto 3 (pc := 65) C dX1_firstBetterAhead_65 (by decide) ?_
        refine r_sub (lv' := [(0, .ref (q 3)), (1, .int c1), (2, .int c2), (3, .int c3), (4, .int x8)]) [0, 1, 2, 3, 4] rfl ?_
        exact ih3 x8
      · refine r_aload_n (pc := 49) C dX1_firstBetterAhead_49 0 rfl ?_
        refine r_iload (pc := 50) C dX1_firstBetterAhead_50 5 rfl ?_
        refine r_iload_n (pc := 52) C dX1_firstBetterAhead_52 1 rfl ?_
        refine r_cVpz (As := [.int x6, .int c1]) (st := []) (pc := 53) C (fun _ h => c_X1_isBetter h) kY_X1_isBetter kw_4_126 kw_4_127 kw_5_14 rfl ⟨Nat.le_of_ble_eq_true rfl, Nat.le_of_ble_eq_true rfl⟩ rfl rfl ⟨Nat.zero_le _, Nat.zero_le _⟩ 3 rfl rfl rfl (Nat.le_of_ble_eq_true rfl) dX1_firstBetterAhead_53 (fun x9 => ?_)
        refine r_ifb_eq 62 (pc := 56) C dX1_firstBetterAhead_56 (by decide) ?_ ?_
        · refine r_iinc (pc := 62) C dX1_firstBetterAhead_62 (v := 1) (lv' := fun x10 => [(0, .ref (q 3)), (1, .int c1), (2, .int c2), (3, .int c3), (4, .int x10), (5, .int x6)]) 4 rfl (by decide) (by decide) [1, 2, 3, 4, 0, 5] (fun _ => rfl) (fun x10 => ?_)
          refine r_goto 3 (pc := 65) C dX1_firstBetterAhead_65 (by decide) ?_
          refine r_sub (lv' := [(0, .ref (q 3)), (1, .int c1), (2, .int c2), (3, .int c3), (4, .int x10)]) [0, 1, 2, 3, 4] rfl ?_
          exact ih3 x10
        · refine r_iload (pc := 59) C dX1_firstBetterAhead_59 5 rfl ?_
          exact r_retPI hR (pc := 61) dX1_firstBetterAhead_61
def f_X1_firstBetterAhead (S : CS) (a1 : Int32) (a2 : Int32) (a3 : Int32) : Option (Int32) :=
  L_X1_firstBetterAhead_3 S a1 a2 a3 (some (-1)) FU 0
set_option maxRecDepth 100000 in
set_option maxHeartbeats 4000000 in
theorem c_X1_firstBetterAhead {g : KG} {q : Nat → Nat} {E : va_W} {S : CS} {a1 : Int32} {a2 : Int32} {a3 : Int32} {r : Int32} (h : f_X1_firstBetterAhead S a1 a2 a3 = some r) : ∀ l, kM l yX1_firstBetterAhead cX1_firstBetterAhead 6 (some .int) rm_X1_firstBetterAhead g [.ref (q 3), .int a1, .int a2, .int a3] (cx g q E S) (cx g q E S) (some (.int r)) 0 0 := by
  refine k_open_i (own := "MarkChains$Book") (by decide) rfl (Nat.le_of_ble_eq_true rfl) (fun X C hR => ?_)
  refine (?_ : jJ X g (r : Int32) (cx g q E S) 0 0 0 [(0, .ref (q 3)), (1, .int a1), (2, .int a2), (3, .int a3)] [] (f_X1_firstBetterAhead S a1 a2 a3)) h
  unfold f_X1_firstBetterAhead
  refine r_iconst (pc := 0) C dX1_firstBetterAhead_0 (v := 0) (by decide) ?_
  refine r_istore (pc := 1) C dX1_firstBetterAhead_1 (lv' := [(0, .ref (q 3)), (1, .int a1), (2, .int a2), (3, .int a3), (4, .int 0)]) (by decide) [1, 2, 3, 4, 0] rfl ?_
  refine l_X1_firstBetterAhead_3 C hR a1 a2 a3 _ (?_) FU 0
  refine r_iconst (pc := 68) C dX1_firstBetterAhead_68 (v := (-1)) (by decide) ?_
  exact r_retPI hR (pc := 69) dX1_firstBetterAhead_69
abbrev rm_X11_would : Room := { frames := 4, cells := 0, slots := 0, locals := 93 }
theorem kY_X11_would : kY yX11_would cX11_would 4 (some .int) 1 := ⟨kw_1_1, kw_5_8, by decide, by decide, by decide +kernel⟩
def L_X11_would_30 (S : CS) (c1 : Int32) (k6 : Int32 → Option (Int32)) : Nat → Int32 → Int32 → Option (Int32) := lo2 fun rec4 x2 x3 =>
  (if 21 < x3 then
  k6 x2
 else
  bp (f_X1_isOfScope S c1 x3) (fun x8 =>
  (if x8 = true then
  bp (f_X1_firstBetterAhead S c1 x3 (S.1 0)) (fun x10 =>
  (if x10 = (-1) then
  lt (x2 + 1) fun x12 =>
  lt (x3 + 1) fun x13 =>
  rec4 x12 x13
 else
  lt (x3 + 1) fun x11 =>
  rec4 x2 x11))
 else
  lt (x3 + 1) fun x9 =>
  rec4 x2 x9)))
set_option maxRecDepth 100000 in
set_option maxHeartbeats 4000000 in
theorem l_X11_would_30 {X : KX} {g : KG} {q : Nat → Nat} {E : va_W} {res : Int32} {S : CS} (C : kC X g cX11_would "MarkChains" rm_X11_would 4) (hR : ∀ (pc : Nat) (lv : List (Nat × Value)), decode cX11_would pc = .ok (.ireturn, 1) → jW X g (cx g q E S) 0 0 pc lv [.int res]) (c1 : Int32) (k6 : Int32 → Option (Int32)) (hk7 : ∀ (x14 : Int32), jJ X g res (cx g q E S) 0 0 74 [(2, .int x14)] [] (k6 x14)) : ∀ (n : Nat) (x2 : Int32) (x3 : Int32), jJ X g res (cx g q E S) 0 0 30 [(0, .ref (q 0)), (1, .int c1), (2, .int x2), (3, .int x3)] [] (L_X11_would_30 S c1 k6 n x2 x3) := by
  refine r_lo2 (fun x2 x3 => cx g q E S) (fun x2 x3 => [(0, .ref (q 0)), (1, .int c1), (2, .int x2), (3, .int x3)]) (fun rec4 ih5 x2 x3 => ?_)
  refine r_iload_n (pc := 30) C dX11_would_30 3 rfl ?_
  refine r_bipush (pc := 31) C dX11_would_31 (v := 21) (by decide) ?_
  refine r_icmp_gt 74 (pc := 33) C dX11_would_33 (by decide) ?_ ?_
  · refine r_sub (lv' := [(2, .int x2)]) [2] rfl ?_
    exact hk7 x2
  · refine r_aload_n (pc := 36) C dX11_would_36 0 rfl ?_
    refine xg_x_book (pc := 37) C kw_2_75 dX11_would_37 ?_
    refine r_iload_n (pc := 40) C dX11_would_40 1 rfl ?_
    refine r_iload_n (pc := 41) C dX11_would_41 3 rfl ?_
    refine r_cVpz (As := [.int c1, .int x3]) (st := []) (pc := 42) C (fun _ h => c_X1_isOfScope h) kY_X1_isOfScope kw_4_96 kw_4_97 kw_4_95 rfl ⟨Nat.le_of_ble_eq_true rfl, Nat.le_of_ble_eq_true rfl⟩ rfl rfl ⟨Nat.zero_le _, Nat.zero_le _⟩ 3 rfl rfl rfl (Nat.le_of_ble_eq_true rfl) dX11_would_42 (fun x8 => ?_)
    refine r_ifb_eq 68 (pc := 45) C dX11_would_45 (by decide) ?_ ?_
    · refine r_iinc (pc := 68) C dX11_would_68 (v := 1) (lv' := fun x9 => [(0, .ref (q 0)), (1, .int c1), (2, .int x2), (3, .int x9)]) 3 rfl (by decide) (by decide) [1, 2, 3, 0] (fun _ => rfl) (fun x9 => ?_)
      refine r_goto 30 (pc := 71) C dX11_would_71 (by decide) ?_
      exact ih5 x2 x9
    · refine r_aload_n (pc := 48) C dX11_would_48 0 rfl ?_
      refine xg_x_book (pc := 49) C kw_2_75 dX11_would_49 ?_
      refine r_iload_n (pc := 52) C dX11_would_52 1 rfl ?_
      refine r_iload_n (pc := 53) C dX11_would_53 3 rfl ?_
      refine r_aload_n (pc := 54) C dX11_would_54 0 rfl ?_
      refine xg_x_today (pc := 55) C kw_2_86 dX11_would_55 ?_
      refine r_cVpi (As := [.int c1, .int x3, .int (S.1 0)]) (st := []) (pc := 58) C (fun _ h => c_X1_firstBetterAhead h) kY_X1_firstBetterAhead kw_5_10 kw_5_11 kw_5_9 rfl ⟨Nat.le_of_ble_eq_true rfl, Nat.le_of_ble_eq_true rfl⟩ rfl rfl ⟨Nat.zero_le _, Nat.zero_le _⟩ 3 rfl rfl rfl (Nat.le_of_ble_eq_true rfl) dX11_would_58 (fun x10 => ?_)
      refine r_iconst (pc := 61) C dX11_would_61 (v := (-1)) (by decide) ?_
      refine r_icmp_ne 68 (pc := 62) C dX11_would_62 (by decide) ?_ ?_
      · refine r_iinc (pc := 68) C dX11_would_68 (v := 1) (lv' := fun x11 => [(0, .ref (q 0)), (1, .int c1), (2, .int x2), (3, .int x11)]) 3 rfl (by decide) (by decide) [1, 2, 3, 0] (fun _ => rfl) (fun x11 => ?_)
        refine r_goto 30 (pc := 71) C dX11_would_71 (by decide) ?_
        exact ih5 x2 x11
      · refine r_iinc (pc := 65) C dX11_would_65 (v := 1) (lv' := fun x12 => [(0, .ref (q 0)), (1, .int c1), (2, .int x12), (3, .int x3)]) 2 rfl (by decide) (by decide) [1, 2, 0, 3] (fun _ => rfl) (fun x12 => ?_)
        refine r_iinc (pc := 68) C dX11_would_68 (v := 1) (lv' := fun x13 => [(0, .ref (q 0)), (1, .int c1), (2, .int x12), (3, .int x13)]) 3 rfl (by decide) (by decide) [1, 2, 3, 0] (fun _ => rfl) (fun x13 => ?_)
        refine r_goto 30 (pc := 71) C dX11_would_71 (by decide) ?_
        exact ih5 x12 x13
def f_X11_would (S : CS) (a1 : Int32) : Option (Int32) :=
  bp (f_X1_hasMark S a1) (fun x1 =>
  (if x1 = true then
  chk a1 60 (
  (if (S.2.1 22 a1.toNatClampNeg) = (-1) then
  L_X11_would_30 S a1 (fun x15 =>
  some x15) FU 0 0
 else
  some (-1)))
 else
  some (-1)))
set_option maxRecDepth 100000 in
set_option maxHeartbeats 4000000 in
theorem c_X11_would {g : KG} {q : Nat → Nat} {E : va_W} {S : CS} {a1 : Int32} {r : Int32} (h : f_X11_would S a1 = some r) : ∀ l, kM l yX11_would cX11_would 4 (some .int) rm_X11_would g [.ref (q 0), .int a1] (cx g q E S) (cx g q E S) (some (.int r)) 0 0 := by
  refine k_open_i (own := "MarkChains") (by decide) rfl (Nat.le_of_ble_eq_true rfl) (fun X C hR => ?_)
  refine (?_ : jJ X g (r : Int32) (cx g q E S) 0 0 0 [(0, .ref (q 0)), (1, .int a1)] [] (f_X11_would S a1)) h
  unfold f_X11_would
  refine r_aload_n (pc := 0) C dX11_would_0 0 rfl ?_
  refine xg_x_book (pc := 1) C kw_2_75 dX11_would_1 ?_
  refine r_iload_n (pc := 4) C dX11_would_4 1 rfl ?_
  refine r_cVpz (As := [.int a1]) (st := []) (pc := 5) C (fun _ h => c_X1_hasMark h) kY_X1_hasMark kw_4_44 kw_4_45 kw_4_43 rfl ⟨Nat.le_of_ble_eq_true rfl, Nat.le_of_ble_eq_true rfl⟩ rfl rfl ⟨Nat.zero_le _, Nat.zero_le _⟩ 3 rfl rfl rfl (Nat.le_of_ble_eq_true rfl) dX11_would_5 (fun x1 => ?_)
  refine r_ifb_eq 24 (pc := 8) C dX11_would_8 (by decide) ?_ ?_
  · refine r_iconst (pc := 24) C dX11_would_24 (v := (-1)) (by decide) ?_
    exact r_retPI hR (pc := 25) dX11_would_25
  · refine r_aload_n (pc := 11) C dX11_would_11 0 rfl ?_
    refine xg_x_book (pc := 12) C kw_2_75 dX11_would_12 ?_
    refine xgN_bk_ratified (pc := 15) C knf_26 dX11_would_15 ?_
    refine r_iload_n (pc := 18) C dX11_would_18 1 rfl ?_
    refine xl_bk_ratified (pc := 19) C dX11_would_19 ?_
    refine r_iconst (pc := 20) C dX11_would_20 (v := (-1)) (by decide) ?_
    refine r_icmp_eq 26 (pc := 21) C dX11_would_21 (by decide) ?_ ?_
    · refine r_iconst (pc := 26) C dX11_would_26 (v := 0) (by decide) ?_
      refine r_istore_n (pc := 27) C dX11_would_27 (lv' := [(0, .ref (q 0)), (1, .int a1), (2, .int 0)]) (by decide) [1, 2, 0] rfl ?_
      refine r_iconst (pc := 28) C dX11_would_28 (v := 0) (by decide) ?_
      refine r_istore_n (pc := 29) C dX11_would_29 (lv' := [(0, .ref (q 0)), (1, .int a1), (2, .int 0), (3, .int 0)]) (by decide) [1, 2, 3, 0] rfl ?_
      refine l_X11_would_30 C hR a1 _ (fun x15 => ?_) FU 0 0
      refine r_iload_n (pc := 74) C dX11_would_74 0 rfl ?_
      exact r_retPI hR (pc := 75) dX11_would_75
    · refine r_iconst (pc := 24) C dX11_would_24 (v := (-1)) (by decide) ?_
      exact r_retPI hR (pc := 25) dX11_would_25
abbrev rm_X4_parts_sf : Room := { frames := 0, cells := 0, slots := 0, locals := 0 }
def f_X4_parts_sf (S : CS) : Option (Int32) :=
  some (nI (S.2.2 51))
set_option maxRecDepth 100000 in
set_option maxHeartbeats 4000000 in
theorem c_X4_parts_sf {g : KG} {q : Nat → Nat} {E : va_W} {S : CS}  {r : Int32} (h : f_X4_parts_sf S = some r) : ∀ l, kM l yX4_parts cX4_parts 1 (some .int) rm_X4_parts_sf g [.ref (q 49)] (cx g q E S) (cx g q E S) (some (.int r)) 0 0 := by
  refine k_open_i (own := "MarkChains$Formula") (by decide) rfl (Nat.le_of_ble_eq_true rfl) (fun X C hR => ?_)
  refine (?_ : jJ X g (r : Int32) (cx g q E S) 0 0 0 [(0, .ref (q 49))] [] (f_X4_parts_sf S)) h
  unfold f_X4_parts_sf
  refine r_aload_n (pc := 0) C dX4_parts_0 0 rfl ?_
  refine xg_sf_ends (pc := 1) C kw_2_62 dX4_parts_1 ?_
  refine xn_sf_ends (pc := 4) C dX4_parts_4 ?_
  exact r_retPI hR (pc := 5) dX4_parts_5
abbrev rm_X4_pop_sf : Room := { frames := 0, cells := 0, slots := 0, locals := 0 }
def f_X4_pop_sf (S : CS) : Option (Int32 × CS) :=
  (if 0 < (S.1 25) then
  lt (ci S 25 ((S.1 25) - 1)) fun S1 =>
  chk (S1.1 25) 60 (
  some (S1.2.1 52 (S1.1 25).toNatClampNeg, S1))
 else
  some (0, S))
set_option maxRecDepth 100000 in
set_option maxHeartbeats 4000000 in
theorem c_X4_pop_sf {g : KG} {q : Nat → Nat} {E : va_W} {S : CS}  {r : Int32} {S' : CS} (h : f_X4_pop_sf S = some (r, S')) : ∀ l, kM l yX4_pop cX4_pop 1 (some .int) rm_X4_pop_sf g [.ref (q 49)] (cx g q E S) (cx g q E S') (some (.int r)) 0 0 := by
  refine k_open_i (own := "MarkChains$Formula") (by decide) rfl (Nat.le_of_ble_eq_true rfl) (fun X C hR => ?_)
  refine (?_ : jJ X g ((r, S') : Int32 × CS) (cx g q E S) 0 0 0 [(0, .ref (q 49))] [] (f_X4_pop_sf S)) h
  unfold f_X4_pop_sf
  refine r_aload_n (pc := 0) C dX4_pop_0 0 rfl ?_
  refine xg_sf_height (pc := 1) C kw_2_64 dX4_pop_1 ?_
  refine r_if_gt 9 (pc := 4) C dX4_pop_4 (by decide) ?_ ?_
  · refine r_aload_n (pc := 9) C dX4_pop_9 0 rfl ?_
    refine r_dup (pc := 10) C dX4_pop_10 rfl ?_
    refine xg_sf_height (pc := 11) C kw_2_64 dX4_pop_11 ?_
    refine r_iconst (pc := 14) C dX4_pop_14 (v := 1) (by decide) ?_
    refine r_isub (pc := 15) C dX4_pop_15 ?_
    refine xp_sf_height (pc := 16) C kw_2_64 dX4_pop_16 (fun S1 => ?_)
    refine r_aload_n (pc := 19) C dX4_pop_19 0 rfl ?_
    refine xg_sf_stack (pc := 20) C kw_2_63 dX4_pop_20 ?_
    refine r_aload_n (pc := 23) C dX4_pop_23 0 rfl ?_
    refine xg_sf_height (pc := 24) C kw_2_64 dX4_pop_24 ?_
    refine xl_sf_stack (pc := 27) C dX4_pop_27 ?_
    exact r_retWI (wf := cx g q E) hR (pc := 28) dX4_pop_28
  · refine r_iconst (pc := 7) C dX4_pop_7 (v := 0) (by decide) ?_
    exact r_retWI (wf := cx g q E) hR (pc := 8) dX4_pop_8
set_option maxRecDepth 100000 in
theorem w_X4_pop_sf {S : CS}  {r : Int32} {S' : CS} (h : f_X4_pop_sf S = some (r, S')) : gI [25] [] S S' := by
  have hS : gI [25] [] S S := gI_rf
  refine (?_ : jf (gI [25] [] S) Prod.snd (f_X4_pop_sf S)) _ h
  unfold f_X4_pop_sf
  refine f_ite ?_ ?_
  · refine f_ltS (gI_ci hS (by decide)) (fun S1 hS1 => ?_)
    refine f_chk ?_
    exact f_some hS1
  · exact f_some hS
abbrev rm_X4_push_sf : Room := { frames := 0, cells := 0, slots := 0, locals := 0 }
def f_X4_push_sf (S : CS) (a1 : Int32) : Option (CS) :=
  (if 60 ≤ (S.1 25) then
  some S
 else
  chk (S.1 25) 60 (lt (ca S 52 (upd (S.2.1 52) (S.1 25).toNatClampNeg a1)) fun S1 =>
  lt (ci S1 25 ((S1.1 25) + 1)) fun S2 =>
  some S2))
set_option maxRecDepth 100000 in
set_option maxHeartbeats 4000000 in
theorem c_X4_push_sf {g : KG} {q : Nat → Nat} {E : va_W} {S : CS} {a1 : Int32} {S' : CS} (h : f_X4_push_sf S a1 = some S') : ∀ l, kM l yX4_push cX4_push 2 none rm_X4_push_sf g [.ref (q 49), .int a1] (cx g q E S) (cx g q E S') (none) 0 0 := by
  refine k_open_v (own := "MarkChains$Formula") (by decide) rfl (Nat.le_of_ble_eq_true rfl) (fun X C hR => ?_)
  refine (?_ : jJ X g (S' : CS) (cx g q E S) 0 0 0 [(0, .ref (q 49)), (1, .int a1)] [] (f_X4_push_sf S a1)) h
  unfold f_X4_push_sf
  refine r_aload_n (pc := 0) C dX4_push_0 0 rfl ?_
  refine xg_sf_height (pc := 1) C kw_2_64 dX4_push_1 ?_
  refine r_aload_n (pc := 4) C dX4_push_4 0 rfl ?_
  refine xg_sf_stack (pc := 5) C kw_2_63 dX4_push_5 ?_
  refine xn_sf_stack (pc := 8) C dX4_push_8 ?_
  refine r_icmp_ge 32 (pc := 9) C dX4_push_9 (by decide) ?_ ?_
  · exact r_retWV (wf := cx g q E) hR (pc := 32) dX4_push_32
  · refine r_aload_n (pc := 12) C dX4_push_12 0 rfl ?_
    refine xg_sf_stack (pc := 13) C kw_2_63 dX4_push_13 ?_
    refine r_aload_n (pc := 16) C dX4_push_16 0 rfl ?_
    refine xg_sf_height (pc := 17) C kw_2_64 dX4_push_17 ?_
    refine r_iload_n (pc := 20) C dX4_push_20 1 rfl ?_
    refine xs_sf_stack (pc := 21) C dX4_push_21 (fun S1 => ?_)
    refine r_aload_n (pc := 22) C dX4_push_22 0 rfl ?_
    refine r_dup (pc := 23) C dX4_push_23 rfl ?_
    refine xg_sf_height (pc := 24) C kw_2_64 dX4_push_24 ?_
    refine r_iconst (pc := 27) C dX4_push_27 (v := 1) (by decide) ?_
    refine r_iadd (pc := 28) C dX4_push_28 ?_
    refine xp_sf_height (pc := 29) C kw_2_64 dX4_push_29 (fun S2 => ?_)
    exact r_retWV (wf := cx g q E) hR (pc := 32) dX4_push_32
set_option maxRecDepth 100000 in
theorem w_X4_push_sf {S : CS} {a1 : Int32} {S' : CS} (h : f_X4_push_sf S a1 = some S') : gI [25] [52] S S' := by
  have hS : gI [25] [52] S S := gI_rf
  refine (?_ : jf (gI [25] [52] S) id (f_X4_push_sf S a1)) _ h
  unfold f_X4_push_sf
  refine f_ite ?_ ?_
  · exact f_some hS
  · refine f_chk (f_ltS (gI_ca hS (by decide)) (fun S1 hS1 => ?_))
    refine f_ltS (gI_ci hS1 (by decide)) (fun S2 hS2 => ?_)
    exact f_some hS2
