theorem f_bpX {σ ρ : Type} {I : σ → Prop} {pr : ρ → σ} {o : Option ρ} (h : ∀ r, o = some r → I (pr r)) : jf I pr (bp o (fun r => some r)) := fun r e => by
  cases o with
  | none => cases e
  | some x => cases e; exact h _ rfl
theorem w_X5_finished {S : CS} {a1 : Int32} {r : FN} (h : f_X5_finished S a1 = some r) : gI [5] [] S r.2 := by
  have hS : gI [5] [] S S := gI_rf
  refine (?_ : jf (gI [5] [] S) Prod.snd (f_X5_finished S a1)) _ h
  unfold f_X5_finished
  refine f_ite ?_ ?_
  · exact f_chk (f_chk (f_some hS))
  · exact f_bwS (fun _ _ h => gI_tr hS (w_X10_failHere h) (by decide) (by decide)) (fun _ _ h => f_some h)
abbrev rm_X5_readNeeds : Room := { frames := 7, cells := 4, slots := 672, locals := 154 }
theorem kY_X5_readNeeds : kY yX5_readNeeds cX5_readNeeds 2 (some (.object "MarkChains$Formula")) 0 := ⟨kw_1_7, kw_3_132, by decide, by decide, by decide +kernel⟩
def L_X5_readNeeds_7 (k6 : CS → Option (FN)) : Nat → CS → Int32 → Option (FN) := lo2 fun rec4 S3 x2 =>
  (if 600 ≤ x2 then
  k6 S3
 else
  bp (f_X10_isOver S3) (fun x8 =>
  (if x8 = true then
  k6 S3
 else
  bw (f_X5_readNext S3) (fun x9 S10 =>
  (if x9 = true then
  lt (x2 + 1) fun x11 =>
  rec4 S10 x11
 else
  bw (f_X10_failHere S10) (fun x12 S13 =>
  some (none, S13)))))))
set_option maxRecDepth 100000 in
set_option maxHeartbeats 4000000 in
theorem l_X5_readNeeds_7 {X : KX} {g : KG} {q : Nat → Nat} {E : va_W} {res : FN} (C : kC X g cX5_readNeeds "MarkChains$FormulaReader" rm_X5_readNeeds 2) (hR : ∀ (v : Value) (w1 : va_W) (pc : Nat) (lv : List (Nat × Value)), pF g q E res (some v) w1 → decode cX5_readNeeds pc = .ok (.areturn, 1) → jW X g w1 4 672 pc lv [v]) (k6 : CS → Option (FN)) (hk7 : ∀ (S14 : CS), jJ X g res (cx g q E S14) 0 0 47 [(0, .ref (q 26))] [] (k6 S14)) : ∀ (n : Nat) (S3 : CS) (x2 : Int32), jJ X g res (cx g q E S3) 0 0 7 [(0, .ref (q 26)), (1, .int x2)] [] (L_X5_readNeeds_7 k6 n S3 x2) := by
  refine r_lo2 (fun S3 x2 => cx g q E S3) (fun S3 x2 => [(0, .ref (q 26)), (1, .int x2)]) (fun rec4 ih5 S3 x2 => ?_)
  refine r_iload_n (pc := 7) C dX5_readNeeds_7 1 rfl ?_
  refine r_sipush (pc := 8) C dX5_readNeeds_8 (v := 600) (by decide) ?_
  refine r_icmp_ge 47 (pc := 11) C dX5_readNeeds_11 (by decide) ?_ ?_
  · refine r_sub (lv' := [(0, .ref (q 26))]) [0] rfl ?_
    exact hk7 S3
  · refine r_aload_n (pc := 14) C dX5_readNeeds_14 0 rfl ?_
    refine xg_fr_tape (pc := 15) C kw_1_180 dX5_readNeeds_15 ?_
    refine r_cVpz (As := []) (st := []) (pc := 18) C (fun _ h => c_X10_isOver h) kY_X10_isOver kw_2_143 kw_2_144 kw_3_137 rfl ⟨Nat.le_of_ble_eq_true rfl, Nat.le_of_ble_eq_true rfl⟩ rfl rfl ⟨Nat.zero_le _, Nat.zero_le _⟩ 1 rfl rfl rfl (Nat.le_of_ble_eq_true rfl) dX5_readNeeds_18 (fun x8 => ?_)
    refine r_ifb_ne 47 (pc := 21) C dX5_readNeeds_21 (by decide) ?_ ?_
    · refine r_sub (lv' := [(0, .ref (q 26))]) [0] rfl ?_
      exact hk7 S3
    · refine r_aload_n (pc := 24) C dX5_readNeeds_24 0 rfl ?_
      refine r_cVwz (As := []) (st := []) (wf := cx g q E) (pc := 25) C (fun _ _ h => c_X5_readNext h) kY_X5_readNext kw_3_140 kw_0_6 kw_3_138 rfl ⟨Nat.le_of_ble_eq_true rfl, Nat.le_of_ble_eq_true rfl⟩ rfl rfl ⟨Nat.zero_le _, Nat.zero_le _⟩ 26 rfl rfl rfl (Nat.le_of_ble_eq_true rfl) dX5_readNeeds_25 (fun x9 S10 => ?_)
      refine r_ifb_ne 41 (pc := 28) C dX5_readNeeds_28 (by decide) ?_ ?_
      · refine r_iinc (pc := 41) C dX5_readNeeds_41 (v := 1) (lv' := fun x11 => [(0, .ref (q 26)), (1, .int x11)]) 1 rfl (by decide) (by decide) [1, 0] (fun _ => rfl) (fun x11 => ?_)
        refine r_goto 7 (pc := 44) C dX5_readNeeds_44 (by decide) ?_
        exact ih5 S10 x11
      · refine r_aload_n (pc := 31) C dX5_readNeeds_31 0 rfl ?_
        refine xg_fr_tape (pc := 32) C kw_1_180 dX5_readNeeds_32 ?_
        refine r_cVwz (As := []) (st := []) (wf := cx g q E) (pc := 35) C (fun _ _ h => c_X10_failHere h) kY_X10_failHere kw_3_12 kw_3_13 kw_3_195 rfl ⟨Nat.le_of_ble_eq_true rfl, Nat.le_of_ble_eq_true rfl⟩ rfl rfl ⟨Nat.zero_le _, Nat.zero_le _⟩ 1 rfl rfl rfl (Nat.le_of_ble_eq_true rfl) dX5_readNeeds_35 (fun x12 S13 => ?_)
        refine r_pop (pc := 38) C dX5_readNeeds_38 rfl ?_
        refine r_null (pc := 39) C dX5_readNeeds_39 ?_
        refine r_widen (a' := 4) (b' := 672) (Nat.zero_le _) (Nat.zero_le _) ?_
        exact r_retXa (Φ := pF g q E) hR ⟨rfl, rfl⟩ (pc := 40) dX5_readNeeds_40
set_option maxRecDepth 100000 in
theorem v_X5_readNeeds_7 {S0 : CS} {k6 : CS → Option (FN)} (hk7 : ∀ (S14 : CS), (gI [2, 3, 5, 10, 11, 12, 13, 14, 15, 16] [27, 28, 29] S0) S14 → jf (gI [2, 3, 5, 10, 11, 12, 13, 14, 15, 16] [27, 28, 29] S0) Prod.snd (k6 S14)) : ∀ (n : Nat) (S3 : CS) (x2 : Int32), (gI [2, 3, 5, 10, 11, 12, 13, 14, 15, 16] [27, 28, 29] S0) S3 → jf (gI [2, 3, 5, 10, 11, 12, 13, 14, 15, 16] [27, 28, 29] S0) Prod.snd (L_X5_readNeeds_7 k6 n S3 x2) := by
  refine f_lo2 (I := (gI [2, 3, 5, 10, 11, 12, 13, 14, 15, 16] [27, 28, 29] S0)) (fun S3 x2 => S3) (fun rec4 ih5 S3 x2 hS3 => ?_)
  refine f_ite ?_ ?_
  · exact hk7 S3 hS3
  · refine f_bp (fun x8 => ?_)
    refine f_ite ?_ ?_
    · exact hk7 S3 hS3
    · refine f_bwS (fun _ _ h => gI_tr hS3 (w_X5_readNext h) (by decide) (by decide)) (fun x9 S10 hS10 => ?_)
      refine f_ite ?_ ?_
      · refine f_lt (fun x11 => ?_)
        exact ih5 S10 x11 hS10
      · refine f_bwS (fun _ _ h => gI_tr hS10 (w_X10_failHere h) (by decide) (by decide)) (fun x12 S13 hS13 => ?_)
        exact f_some hS13
def f_X5_readNeeds (S : CS) : Option FN :=
  bp (f_X5_begin S 4) (fun S1 =>
  L_X5_readNeeds_7 (fun S15 =>
  bp (f_X5_finished S15 4) (fun r => some r)) FU S1 0)
set_option maxRecDepth 100000 in
set_option maxHeartbeats 4000000 in
theorem c_X5_readNeeds {g : KG} {q : Nat → Nat} {E : va_W} {S : CS} {r : FN} (h : f_X5_readNeeds S = some r) : ∀ l, kMx l yX5_readNeeds cX5_readNeeds 2 (some (.object "MarkChains$Formula")) rm_X5_readNeeds g [.ref (q 26)] (cx g q E S) (pF g q E r) 4 672 := by
  refine k_openx_a (own := "MarkChains$FormulaReader") (Or.inl ⟨_, rfl⟩) (fun v w hv => by obtain ⟨v', h1, h2⟩ := pF_some hv; cases h1; exact h2) (by decide) rfl (Nat.le_of_ble_eq_true rfl) (fun X C hR => ?_)
  refine (?_ : jJ X g r (cx g q E S) 0 0 0 [(0, .ref (q 26))] [] (f_X5_readNeeds S)) h
  unfold f_X5_readNeeds
  refine r_aload_n (pc := 0) C dX5_readNeeds_0 0 rfl ?_
  refine r_iconst (pc := 1) C dX5_readNeeds_1 (v := 4) (by decide) ?_
  refine r_cVwv (As := [.int 4]) (st := []) (wf := cx g q E) (pc := 2) C (fun _ h => c_X5_begin h) kY_X5_begin kw_3_135 kw_0_5 kw_3_133 rfl ⟨Nat.le_of_ble_eq_true rfl, Nat.le_of_ble_eq_true rfl⟩ rfl rfl ⟨Nat.zero_le _, Nat.zero_le _⟩ 26 rfl rfl rfl (Nat.le_of_ble_eq_true rfl) dX5_readNeeds_2 (fun S1 => ?_)
  refine r_iconst (pc := 5) C dX5_readNeeds_5 (v := 0) (by decide) ?_
  refine r_istore_n (pc := 6) C dX5_readNeeds_6 (lv' := [(0, .ref (q 26)), (1, .int 0)]) (by decide) [1, 0] rfl ?_
  refine l_X5_readNeeds_7 C hR _ (fun S15 => ?_) FU S1 0
  refine r_aload_n (pc := 47) C dX5_readNeeds_47 0 rfl ?_
  refine r_iconst (pc := 48) C dX5_readNeeds_48 (v := 4) (by decide) ?_
  refine r_cVX (Φ := pF g q E) (As := [.int 4]) (st := []) (mc := 4) (ms := 672) (pc := 49) C (fun _ h => c_X5_finished h) kY_X5_finished kw_3_198 kw_0_18 kw_3_196 rfl ⟨Nat.le_of_ble_eq_true rfl, Nat.le_of_ble_eq_true rfl⟩ rfl rfl ⟨Nat.le_of_ble_eq_true rfl, Nat.le_of_ble_eq_true rfl⟩ 26 rfl rfl rfl (Nat.le_of_ble_eq_true rfl) dX5_readNeeds_49 (fun r o w hw => ?_)
  obtain ⟨v, hv, -⟩ := pF_some hw
  subst hv
  exact r_retXa (Φ := pF g q E) hR hw (pc := 52) dX5_readNeeds_52
set_option maxRecDepth 100000 in
theorem w_X5_readNeeds {S : CS} {r : FN} (h : f_X5_readNeeds S = some r) : gI [2, 3, 5, 10, 11, 12, 13, 14, 15, 16] [27, 28, 29] S r.2 := by
  have hS : gI [2, 3, 5, 10, 11, 12, 13, 14, 15, 16] [27, 28, 29] S S := gI_rf
  refine (?_ : jf (gI [2, 3, 5, 10, 11, 12, 13, 14, 15, 16] [27, 28, 29] S) Prod.snd (f_X5_readNeeds S)) _ h
  unfold f_X5_readNeeds
  refine f_bpS (fun _ h => gI_tr hS (w_X5_begin h) (by decide) (by decide)) (fun S1 hS1 => ?_)
  refine v_X5_readNeeds_7 (fun S15 hS15 => ?_) FU S1 0 hS1
  exact f_bpX (fun _ h => gI_tr hS15 (w_X5_finished h) (by decide) (by decide))
abbrev rm_X5_readScore : Room := { frames := 5, cells := 4, slots := 672, locals := 131 }
theorem kY_X5_readScore : kY yX5_readScore cX5_readScore 2 (some (.object "MarkChains$Formula")) 0 := ⟨kw_1_7, kw_5_22, by decide, by decide, by decide +kernel⟩
def L_X5_readScore_28 (k7 : CS → Option (FN)) : Nat → CS → Int32 → Option (FN) := lo2 fun rec5 S4 x3 =>
  (if 600 ≤ x3 then
  k7 S4
 else
  bp (f_X10_isOver S4) (fun x9 =>
  (if x9 = true then
  k7 S4
 else
  jn1 (fun (S10 : CS) =>
  bw (f_X10_failHere S10) (fun x11 S12 =>
  some (none, S12))) (fun k13 =>
  (if (S4.1 15) = 1 then
  bw (f_X5_readThing S4) (fun x19 S20 =>
  (if x19 = true then
  lt (x3 + 1) fun x21 =>
  rec5 S20 x21
 else
  k13 S20))
 else
  bp (f_X10_peek S4) (fun x15 =>
  bw (f_X5_readArithmetic S4 x15) (fun x16 S17 =>
  (if x16 = true then
  lt (x3 + 1) fun x18 =>
  rec5 S17 x18
 else
  k13 S17))))))))
set_option maxRecDepth 100000 in
set_option maxHeartbeats 4000000 in
theorem l_X5_readScore_28 {X : KX} {g : KG} {q : Nat → Nat} {E : va_W} {res : FN} (C : kC X g cX5_readScore "MarkChains$FormulaReader" rm_X5_readScore 2) (hR : ∀ (v : Value) (w1 : va_W) (pc : Nat) (lv : List (Nat × Value)), pF g q E res (some v) w1 → decode cX5_readScore pc = .ok (.areturn, 1) → jW X g w1 4 672 pc lv [v]) (k7 : CS → Option (FN)) (hk8 : ∀ (S22 : CS), jJ X g res (cx g q E S22) 0 0 93 [(0, .ref (q 26))] [] (k7 S22)) : ∀ (n : Nat) (S4 : CS) (x3 : Int32), jJ X g res (cx g q E S4) 0 0 28 [(0, .ref (q 26)), (1, .int x3)] [] (L_X5_readScore_28 k7 n S4 x3) := by
  refine r_lo2 (fun S4 x3 => cx g q E S4) (fun S4 x3 => [(0, .ref (q 26)), (1, .int x3)]) (fun rec5 ih6 S4 x3 => ?_)
  refine r_iload_n (pc := 28) C dX5_readScore_28 1 rfl ?_
  refine r_sipush (pc := 29) C dX5_readScore_29 (v := 600) (by decide) ?_
  refine r_icmp_ge 93 (pc := 32) C dX5_readScore_32 (by decide) ?_ ?_
  · refine r_sub (lv' := [(0, .ref (q 26))]) [0] rfl ?_
    exact hk8 S4
  · refine r_aload_n (pc := 35) C dX5_readScore_35 0 rfl ?_
    refine xg_fr_tape (pc := 36) C kw_1_180 dX5_readScore_36 ?_
    refine r_cVpz (As := []) (st := []) (pc := 39) C (fun _ h => c_X10_isOver h) kY_X10_isOver kw_2_143 kw_2_144 kw_3_137 rfl ⟨Nat.le_of_ble_eq_true rfl, Nat.le_of_ble_eq_true rfl⟩ rfl rfl ⟨Nat.zero_le _, Nat.zero_le _⟩ 1 rfl rfl rfl (Nat.le_of_ble_eq_true rfl) dX5_readScore_39 (fun x9 => ?_)
    refine r_ifb_ne 93 (pc := 42) C dX5_readScore_42 (by decide) ?_ ?_
    · refine r_sub (lv' := [(0, .ref (q 26))]) [0] rfl ?_
      exact hk8 S4
    · refine r_aload_n (pc := 45) C dX5_readScore_45 0 rfl ?_
      refine xg_fr_state (pc := 46) C kw_1_190 dX5_readScore_46 ?_
      refine r_iconst (pc := 49) C dX5_readScore_49 (v := 1) (by decide) ?_
      refine r_jn1 77 (fun (S10 : CS) => cx g q E S10) (fun (S10 : CS) => [(0, .ref (q 26))]) (fun (S10 : CS) => []) (fun S10 => ?_) (fun k13 hk14 => ?_)
      · refine r_aload_n (pc := 77) C dX5_readScore_77 0 rfl ?_
        refine xg_fr_tape (pc := 78) C kw_1_180 dX5_readScore_78 ?_
        refine r_cVwz (As := []) (st := []) (wf := cx g q E) (pc := 81) C (fun _ _ h => c_X10_failHere h) kY_X10_failHere kw_3_12 kw_3_13 kw_3_195 rfl ⟨Nat.le_of_ble_eq_true rfl, Nat.le_of_ble_eq_true rfl⟩ rfl rfl ⟨Nat.zero_le _, Nat.zero_le _⟩ 1 rfl rfl rfl (Nat.le_of_ble_eq_true rfl) dX5_readScore_81 (fun x11 S12 => ?_)
        refine r_pop (pc := 84) C dX5_readScore_84 rfl ?_
        refine r_null (pc := 85) C dX5_readScore_85 ?_
        refine r_widen (a' := 4) (b' := 672) (Nat.zero_le _) (Nat.zero_le _) ?_
        exact r_retXa (Φ := pF g q E) hR ⟨rfl, rfl⟩ (pc := 86) dX5_readScore_86
      · refine r_icmp_ne 63 (pc := 50) C dX5_readScore_50 (by decide) ?_ ?_
        · refine r_aload_n (pc := 63) C dX5_readScore_63 0 rfl ?_
          refine r_aload_n (pc := 64) C dX5_readScore_64 0 rfl ?_
          refine xg_fr_tape (pc := 65) C kw_1_180 dX5_readScore_65 ?_
          refine r_cVpi (As := []) (st := [.ref (q 26)]) (pc := 68) C (fun _ h => c_X10_peek h) kY_X10_peek kw_2_152 kw_2_153 kw_3_142 rfl ⟨Nat.le_of_ble_eq_true rfl, Nat.le_of_ble_eq_true rfl⟩ rfl rfl ⟨Nat.zero_le _, Nat.zero_le _⟩ 1 rfl rfl rfl (Nat.le_of_ble_eq_true rfl) dX5_readScore_68 (fun x15 => ?_)
          refine r_cVwz (As := [.int x15]) (st := []) (wf := cx g q E) (pc := 71) C (fun _ _ h => c_X5_readArithmetic h) kY_X5_readArithmetic kw_3_166 kw_0_11 kw_3_164 rfl ⟨Nat.le_of_ble_eq_true rfl, Nat.le_of_ble_eq_true rfl⟩ rfl rfl ⟨Nat.zero_le _, Nat.zero_le _⟩ 26 rfl rfl rfl (Nat.le_of_ble_eq_true rfl) dX5_readScore_71 (fun x16 S17 => ?_)
          refine r_ifb_ne 87 (pc := 74) C dX5_readScore_74 (by decide) ?_ ?_
          · refine r_iinc (pc := 87) C dX5_readScore_87 (v := 1) (lv' := fun x18 => [(0, .ref (q 26)), (1, .int x18)]) 1 rfl (by decide) (by decide) [1, 0] (fun _ => rfl) (fun x18 => ?_)
            refine r_goto 28 (pc := 90) C dX5_readScore_90 (by decide) ?_
            exact ih6 S17 x18
          · refine r_sub (lv' := [(0, .ref (q 26))]) [0] rfl ?_
            exact hk14 S17
        · refine r_aload_n (pc := 53) C dX5_readScore_53 0 rfl ?_
          refine r_cVwz (As := []) (st := []) (wf := cx g q E) (pc := 54) C (fun _ _ h => c_X5_readThing h) kY_X5_readThing kw_3_149 kw_0_8 kw_3_147 rfl ⟨Nat.le_of_ble_eq_true rfl, Nat.le_of_ble_eq_true rfl⟩ rfl rfl ⟨Nat.zero_le _, Nat.zero_le _⟩ 26 rfl rfl rfl (Nat.le_of_ble_eq_true rfl) dX5_readScore_54 (fun x19 S20 => ?_)
          refine r_ifb_eq 77 (pc := 57) C dX5_readScore_57 (by decide) ?_ ?_
          · refine r_sub (lv' := [(0, .ref (q 26))]) [0] rfl ?_
            exact hk14 S20
          · refine r_goto 87 (pc := 60) C dX5_readScore_60 (by decide) ?_
            refine r_iinc (pc := 87) C dX5_readScore_87 (v := 1) (lv' := fun x21 => [(0, .ref (q 26)), (1, .int x21)]) 1 rfl (by decide) (by decide) [1, 0] (fun _ => rfl) (fun x21 => ?_)
            refine r_goto 28 (pc := 90) C dX5_readScore_90 (by decide) ?_
            exact ih6 S20 x21
set_option maxRecDepth 100000 in
theorem v_X5_readScore_28 {S0 : CS} {k7 : CS → Option (FN)} (hk8 : ∀ (S22 : CS), (gI [2, 3, 5, 10, 11, 12, 13, 14, 15, 16] [27, 28, 29] S0) S22 → jf (gI [2, 3, 5, 10, 11, 12, 13, 14, 15, 16] [27, 28, 29] S0) Prod.snd (k7 S22)) : ∀ (n : Nat) (S4 : CS) (x3 : Int32), (gI [2, 3, 5, 10, 11, 12, 13, 14, 15, 16] [27, 28, 29] S0) S4 → jf (gI [2, 3, 5, 10, 11, 12, 13, 14, 15, 16] [27, 28, 29] S0) Prod.snd (L_X5_readScore_28 k7 n S4 x3) := by
  refine f_lo2 (I := (gI [2, 3, 5, 10, 11, 12, 13, 14, 15, 16] [27, 28, 29] S0)) (fun S4 x3 => S4) (fun rec5 ih6 S4 x3 hS4 => ?_)
  refine f_ite ?_ ?_
  · exact hk8 S4 hS4
  · refine f_bp (fun x9 => ?_)
    refine f_ite ?_ ?_
    · exact hk8 S4 hS4
    · refine f_jn1 (fun S10 hS10 => ?_) (fun k13 hk14 => ?_)
      · refine f_bwS (fun _ _ h => gI_tr hS10 (w_X10_failHere h) (by decide) (by decide)) (fun x11 S12 hS12 => ?_)
        exact f_some hS12
      · refine f_ite ?_ ?_
        · refine f_bwS (fun _ _ h => gI_tr hS4 (w_X5_readThing h) (by decide) (by decide)) (fun x19 S20 hS20 => ?_)
          refine f_ite ?_ ?_
          · refine f_lt (fun x21 => ?_)
            exact ih6 S20 x21 hS20
          · exact hk14 S20 hS20
        · refine f_bp (fun x15 => ?_)
          refine f_bwS (fun _ _ h => gI_tr hS4 (w_X5_readArithmetic h) (by decide) (by decide)) (fun x16 S17 hS17 => ?_)
          refine f_ite ?_ ?_
          · refine f_lt (fun x18 => ?_)
            exact ih6 S17 x18 hS17
          · exact hk14 S17 hS17
def f_X5_readScore (S : CS) : Option FN :=
  bp (f_X10_isOver S) (fun x1 =>
  (if x1 = true then
  bp (f_X5_begin S 4) (fun S26 =>
  bp (f_X5_finished S26 4) (fun r => some r))
 else
  bp (f_X5_begin S 1) (fun S2 =>
  L_X5_readScore_28 (fun S23 =>
  bp (f_X5_release S23 1) (fun S24 =>
  bp (f_X5_endPart S24) (fun S25 =>
  bp (f_X5_finished S25 2) (fun r => some r)))) FU S2 0)))
set_option maxRecDepth 100000 in
set_option maxHeartbeats 4000000 in
theorem c_X5_readScore {g : KG} {q : Nat → Nat} {E : va_W} {S : CS} {r : FN} (h : f_X5_readScore S = some r) : ∀ l, kMx l yX5_readScore cX5_readScore 2 (some (.object "MarkChains$Formula")) rm_X5_readScore g [.ref (q 26)] (cx g q E S) (pF g q E r) 4 672 := by
  refine k_openx_a (own := "MarkChains$FormulaReader") (Or.inl ⟨_, rfl⟩) (fun v w hv => by obtain ⟨v', h1, h2⟩ := pF_some hv; cases h1; exact h2) (by decide) rfl (Nat.le_of_ble_eq_true rfl) (fun X C hR => ?_)
  refine (?_ : jJ X g r (cx g q E S) 0 0 0 [(0, .ref (q 26))] [] (f_X5_readScore S)) h
  unfold f_X5_readScore
  refine r_aload_n (pc := 0) C dX5_readScore_0 0 rfl ?_
  refine xg_fr_tape (pc := 1) C kw_1_180 dX5_readScore_1 ?_
  refine r_cVpz (As := []) (st := []) (pc := 4) C (fun _ h => c_X10_isOver h) kY_X10_isOver kw_2_143 kw_2_144 kw_3_137 rfl ⟨Nat.le_of_ble_eq_true rfl, Nat.le_of_ble_eq_true rfl⟩ rfl rfl ⟨Nat.zero_le _, Nat.zero_le _⟩ 1 rfl rfl rfl (Nat.le_of_ble_eq_true rfl) dX5_readScore_4 (fun x1 => ?_)
  refine r_ifb_eq 21 (pc := 7) C dX5_readScore_7 (by decide) ?_ ?_
  · refine r_aload_n (pc := 21) C dX5_readScore_21 0 rfl ?_
    refine r_iconst (pc := 22) C dX5_readScore_22 (v := 1) (by decide) ?_
    refine r_cVwv (As := [.int 1]) (st := []) (wf := cx g q E) (pc := 23) C (fun _ h => c_X5_begin h) kY_X5_begin kw_3_135 kw_0_5 kw_3_133 rfl ⟨Nat.le_of_ble_eq_true rfl, Nat.le_of_ble_eq_true rfl⟩ rfl rfl ⟨Nat.zero_le _, Nat.zero_le _⟩ 26 rfl rfl rfl (Nat.le_of_ble_eq_true rfl) dX5_readScore_23 (fun S2 => ?_)
    refine r_iconst (pc := 26) C dX5_readScore_26 (v := 0) (by decide) ?_
    refine r_istore_n (pc := 27) C dX5_readScore_27 (lv' := [(0, .ref (q 26)), (1, .int 0)]) (by decide) [1, 0] rfl ?_
    refine l_X5_readScore_28 C hR _ (fun S23 => ?_) FU S2 0
    refine r_aload_n (pc := 93) C dX5_readScore_93 0 rfl ?_
    refine r_iconst (pc := 94) C dX5_readScore_94 (v := 1) (by decide) ?_
    refine r_cVwv (As := [.int 1]) (st := []) (wf := cx g q E) (pc := 95) C (fun _ h => c_X5_release h) kY_X5_release kw_3_173 kw_0_12 kw_3_171 rfl ⟨Nat.le_of_ble_eq_true rfl, Nat.le_of_ble_eq_true rfl⟩ rfl rfl ⟨Nat.zero_le _, Nat.zero_le _⟩ 26 rfl rfl rfl (Nat.le_of_ble_eq_true rfl) dX5_readScore_95 (fun S24 => ?_)
    refine r_aload_n (pc := 98) C dX5_readScore_98 0 rfl ?_
    refine r_cVwv (As := []) (st := []) (wf := cx g q E) (pc := 99) C (fun _ h => c_X5_endPart h) kY_X5_endPart kw_3_193 kw_0_17 kw_3_191 rfl ⟨Nat.le_of_ble_eq_true rfl, Nat.le_of_ble_eq_true rfl⟩ rfl rfl ⟨Nat.zero_le _, Nat.zero_le _⟩ 26 rfl rfl rfl (Nat.le_of_ble_eq_true rfl) dX5_readScore_99 (fun S25 => ?_)
    refine r_aload_n (pc := 102) C dX5_readScore_102 0 rfl ?_
    refine r_iconst (pc := 103) C dX5_readScore_103 (v := 2) (by decide) ?_
    refine r_cVX (Φ := pF g q E) (As := [.int 2]) (st := []) (mc := 4) (ms := 672) (pc := 104) C (fun _ h => c_X5_finished h) kY_X5_finished kw_3_198 kw_0_18 kw_3_196 rfl ⟨Nat.le_of_ble_eq_true rfl, Nat.le_of_ble_eq_true rfl⟩ rfl rfl ⟨Nat.le_of_ble_eq_true rfl, Nat.le_of_ble_eq_true rfl⟩ 26 rfl rfl rfl (Nat.le_of_ble_eq_true rfl) dX5_readScore_104 (fun r o w hw => ?_)
    obtain ⟨v, hv, -⟩ := pF_some hw
    subst hv
    exact r_retXa (Φ := pF g q E) hR hw (pc := 107) dX5_readScore_107
  · refine r_aload_n (pc := 10) C dX5_readScore_10 0 rfl ?_
    refine r_iconst (pc := 11) C dX5_readScore_11 (v := 4) (by decide) ?_
    refine r_cVwv (As := [.int 4]) (st := []) (wf := cx g q E) (pc := 12) C (fun _ h => c_X5_begin h) kY_X5_begin kw_3_135 kw_0_5 kw_3_133 rfl ⟨Nat.le_of_ble_eq_true rfl, Nat.le_of_ble_eq_true rfl⟩ rfl rfl ⟨Nat.zero_le _, Nat.zero_le _⟩ 26 rfl rfl rfl (Nat.le_of_ble_eq_true rfl) dX5_readScore_12 (fun S26 => ?_)
    refine r_aload_n (pc := 15) C dX5_readScore_15 0 rfl ?_
    refine r_iconst (pc := 16) C dX5_readScore_16 (v := 4) (by decide) ?_
    refine r_cVX (Φ := pF g q E) (As := [.int 4]) (st := []) (mc := 4) (ms := 672) (pc := 17) C (fun _ h => c_X5_finished h) kY_X5_finished kw_3_198 kw_0_18 kw_3_196 rfl ⟨Nat.le_of_ble_eq_true rfl, Nat.le_of_ble_eq_true rfl⟩ rfl rfl ⟨Nat.le_of_ble_eq_true rfl, Nat.le_of_ble_eq_true rfl⟩ 26 rfl rfl rfl (Nat.le_of_ble_eq_true rfl) dX5_readScore_17 (fun r o w hw => ?_)
    obtain ⟨v, hv, -⟩ := pF_some hw
    subst hv
    exact r_retXa (Φ := pF g q E) hR hw (pc := 20) dX5_readScore_20
set_option maxRecDepth 100000 in
theorem w_X5_readScore {S : CS} {r : FN} (h : f_X5_readScore S = some r) : gI [2, 3, 5, 10, 11, 12, 13, 14, 15, 16] [27, 28, 29] S r.2 := by
  have hS : gI [2, 3, 5, 10, 11, 12, 13, 14, 15, 16] [27, 28, 29] S S := gI_rf
  refine (?_ : jf (gI [2, 3, 5, 10, 11, 12, 13, 14, 15, 16] [27, 28, 29] S) Prod.snd (f_X5_readScore S)) _ h
  unfold f_X5_readScore
  refine f_bp (fun x1 => ?_)
  refine f_ite ?_ ?_
  · refine f_bpS (fun _ h => gI_tr hS (w_X5_begin h) (by decide) (by decide)) (fun S26 hS26 => ?_)
    exact f_bpX (fun _ h => gI_tr hS26 (w_X5_finished h) (by decide) (by decide))
  · refine f_bpS (fun _ h => gI_tr hS (w_X5_begin h) (by decide) (by decide)) (fun S2 hS2 => ?_)
    refine v_X5_readScore_28 (fun S23 hS23 => ?_) FU S2 0 hS2
    refine f_bpS (fun _ h => gI_tr hS23 (w_X5_release h) (by decide) (by decide)) (fun S24 hS24 => ?_)
    refine f_bpS (fun _ h => gI_tr hS24 (w_X5_endPart h) (by decide) (by decide)) (fun S25 hS25 => ?_)
    exact f_bpX (fun _ h => gI_tr hS25 (w_X5_finished h) (by decide) (by decide))
