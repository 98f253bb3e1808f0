/-! needs: behind a test -/
section
variable {bb : Nat → Nat} {n : Nat} {S0 : CS} {M0 : MS} {c0 : List Int32} {p0 nd gc ps : Nat}
/-- the class closes a bracket -/
theorem cl_br {f : Nat} {S : CS} {t : Nat} {M M' : MS} {p : Nat} {cl : List Int32} {u w : List Nat} {T k : Nat} (h : fR bb n S M (f + 1) S t M p cl u (40 :: w) T (k + 1 + c33 u)) (hu : ∀ o, o ∈ u → 1 ≤ strn o) (hk : k + c33 u < 900) (hcl : cl.length + u.length ≤ 500) (hl : (u ++ 40 :: w).length ≤ 500) (hp : p < n) (hf : fI [6, 16] [13, 14, 15] M M') (h6 : M'.1 6 = nI (p + 1)) : ∃ S', f_X5_closeBracket S = some (true, S') ∧ gI [2, 10, 11, 14, 15] [27] S S' ∧ S'.1 15 = 3 ∧ fR bb n S' M' f S' (t + 1) M' (p + 1) (cl ++ ng u) [] w T k := by
  have hfu := h.fu
  have htp := h.tp
  obtain ⟨S1, q1, q2, q3, q4, q5, q6⟩ := rel1 h (show strn 40 < 1 by decide) hu (by omega) (by omega) hcl hl
  have q5 : S1.1 11 = nI (w.length + 1) := q5
  have hlw : (u ++ 40 :: w).length = u.length + (w.length + 1) := List.length_append
  have q6 : S1.1 14 = nI (k + 1) := by rw [q6, Nat.add_sub_cancel]
  have e2 : S1.1 2 = nI p := by rw [q2.1 2 (by decide)]; exact h.s.p
  refine ⟨ci (ci (ci (ci S1 11 (nI w.length)) 14 (nI k)) 2 (nI (p + 1))) 15 3, ?_, gI_ci (gI_ci (gI_ci (gI_ci (gI_tr gI_rf q2 (by decide) (by decide)) (by decide)) (by decide)) (by decide)) (by decide), rfl, ?_⟩
  · unfold f_X5_closeBracket f_X10_step
    rw [q1, bp_some, q5, if_neg (nI_ne0 (by omega) (by omega)), nI_pred, lt_eq, lt_eq, lt_eq, bp_some, lt_eq]
    show some (true, ci (ci (ci (ci S1 11 (nI w.length)) 14 (S1.1 14 - 1)) 2 (S1.1 2 + 1)) 15 3) = _
    rw [q6, nI_pred, e2, nI_1]
  · have hst : stkW (S.2.1 28) (40 :: w) := stkW_app h.wa
    refine ⟨⟨by show S1.1 1 = _; rw [q2.1 1 (by decide)]; exact h.s.l, rfl, by show ∀ i, i < n → S1.2.1 2 i = nI (bb i); rw [q2.2.1 2 (by decide)]; exact h.s.b⟩, rdM_fI h.m hf (by decide) (by decide) h6, hp, by omega, by omega, gI_rf, fI_rf, q3, q4, rfl, ?_, ?_, rfl, ?_, ?_, h.T6, ?_, ?_, ?_⟩
    · show stkW (S1.2.1 28) w
      rw [q2.2.1 28 (by decide)]; exact hst.2
    · intro o ho
      exact h.wb o (List.mem_append_right _ (List.mem_cons_of_mem _ ho))
    · show S1.1 13 = _
      rw [q2.1 13 (by decide)]; exact h.sT
    · rw [hf.1 12 (by decide)]; exact h.mT
    · rw [app0, hf.1 11 (by decide)]; exact h.mc
    · rw [app0, hf.2 9 (by decide)]; exact h.ma
    · show S1.1 5 = _
      rw [q2.1 5 (by decide), hf.1 7 (by decide)]; exact h.fa
/-- the class closes a cond -/
theorem cl_cd {f : Nat} {S : CS} {t : Nat} {M M' : MS} {p : Nat} {cl : List Int32} {u : List Nat} {T : Nat} (h : fR bb n S M (f + 1) S t M p cl u [] T (0 + c33 u)) (hu : ∀ o, o ∈ u → 1 ≤ strn o) (hk : c33 u < 900) (hcl : cl.length + u.length ≤ 500) (hp : p < n) (hf : fI [6, 16] [13, 14, 15] M M') (h6 : M'.1 6 = nI (p + 1)) (h12 : S.1 12 = nI nd) (hnd : nd < 8) : ∃ S', f_X5_closeCond S = some (true, S') ∧ gI [2, 10, 11, 12, 14, 15] [27, 29] S S' ∧ S'.1 15 = 4 ∧ S'.1 12 = nI nd + 1 ∧ S'.2.1 29 = upd (S.2.1 29) nd (nI (cl ++ ng u).length) ∧ fR bb n S' M' f S' (t + 1) M' (p + 1) (cl ++ ng u) [] [] T 0 := by
  have hfu := h.fu
  have htp := h.tp
  have hlw : (u ++ []).length = u.length := by rw [List.append_nil]
  obtain ⟨S1, q1, q2, q3, q4, q5, q6⟩ := rel1 h trivial hu (by omega) (by omega) hcl (by omega)
  have q5 : S1.1 11 = nI 0 := q5
  have q6 : S1.1 14 = nI 0 := by rw [q6, Nat.add_sub_cancel]
  have e2 : S1.1 2 = nI p := by rw [q2.1 2 (by decide)]; exact h.s.p
  have e12 : S1.1 12 = nI nd := by rw [q2.1 12 (by decide)]; exact h12
  refine ⟨ci (ci (ci (ca S1 29 (upd (S1.2.1 29) nd (nI (cl ++ ng u).length))) 12 (nI nd + 1)) 2 (nI (p + 1))) 15 4, ?_, gI_ci (gI_ci (gI_ci (gI_ca (gI_tr gI_rf q2 (by decide) (by decide)) (by decide)) (by decide)) (by decide)) (by decide), rfl, rfl, ?_, ?_⟩
  · unfold f_X5_closeCond f_X10_step f_X5_endPart
    rw [q1, bp_some, q5, if_pos (show nI 0 = 0 from rfl), e12, if_neg (fun z => by rw [show (8 : Int32) = nI 8 from rfl, nI_leI (by omega) (by omega)] at z; omega), chk_nI hnd (by decide), nI_clamp (by omega), q3, lt_eq, lt_eq, bp_some, lt_eq, bp_some, lt_eq]
    show some (true, ci (ci (ci (ca S1 29 (upd (S1.2.1 29) nd (nI (cl ++ ng u).length))) 12 (S1.1 12 + 1)) 2 (S1.1 2 + 1)) 15 4) = _
    rw [e12, e2, nI_1 p]
  · show upd (S1.2.1 29) nd _ = _
    rw [q2.2.1 29 (by decide)]
  · refine ⟨⟨by show S1.1 1 = _; rw [q2.1 1 (by decide)]; exact h.s.l, rfl, by show ∀ i, i < n → S1.2.1 2 i = nI (bb i); rw [q2.2.1 2 (by decide)]; exact h.s.b⟩, rdM_fI h.m hf (by decide) (by decide) h6, hp, by omega, by omega, gI_rf, fI_rf, q3, q4, q5, trivial, fun o ho => absurd ho List.not_mem_nil, q6, ?_, ?_, h.T6, ?_, ?_, ?_⟩
    · show S1.1 13 = _
      rw [q2.1 13 (by decide)]; exact h.sT
    · rw [hf.1 12 (by decide)]; exact h.mT
    · rw [app0, hf.1 11 (by decide)]; exact h.mc
    · rw [app0, hf.2 9 (by decide)]; exact h.ma
    · show S1.1 5 = _
      rw [q2.1 5 (by decide), hf.1 7 (by decide)]; exact h.fa
/-- signs that can't stand there: the class -/
theorem bt_bad {f : Nat} {S : CS} {t : Nat} {M : MS} {p : Nat} {cl : List Int32} {u w : List Nat} {T nst : Nat} (h : fR bb n S M f S t M p cl u w T nst) (hw : topL 1 w) (hu : ∀ o, o ∈ u → 1 ≤ strn o) (h33 : c33 u ≤ nst) (hn : nst < 900) (hcl : cl.length + u.length ≤ 500) (hl : (u ++ w).length ≤ 500) (n1 : ¬ sg bb n p = 38) (n2 : ¬ sg bb n p = 124) (n3 : sg bb n p = 41 → w = []) (n4 : sg bb n p = 59 → ¬ w = []) : ∃ S', f_X5_readBehindTest S (sg bb n p) = some (false, S') ∧ gI [10, 11, 14] [27] S S' ∧ S'.1 2 = nI p := by
  obtain ⟨S1, q1, q2, q3, q4, q5, q6⟩ := rel1 h hw hu h33 (by omega) hcl hl
  have e2 : S1.1 2 = nI p := by rw [q2.1 2 (by decide)]; exact h.s.p
  have hlw : (u ++ w).length = u.length + w.length := List.length_append
  by_cases c1 : sg bb n p = 41
  · refine ⟨S1, ?_, q2, e2⟩
    rw [show sg bb n p = nI 41 from c1, bt_41]
    unfold f_X5_closeBracket
    rw [q1, bp_some, q5, n3 c1, if_pos (show nI ([] : List Nat).length = 0 from rfl)]
  · by_cases c2 : sg bb n p = 59
    · refine ⟨S1, ?_, q2, e2⟩
      rw [show sg bb n p = nI 59 from c2, bt_59]
      unfold f_X5_closeCond
      rw [q1, bp_some, q5, if_neg (nI_ne0 (List.length_pos_iff.mpr (n4 c2)) (by omega))]
    · exact ⟨S, bt_no n1 c1 c2 n2, gI_rf, h.s.p⟩
theorem bt_main (ho : bbO bb n) (h12 : S0.1 12 = nI nd) (hnd : nd < 8) (hps : p0 ≤ ps) (IH : ∀ (f : Nat) (S : CS) (t : Nat) (M : MS) (p T C : Nat) (x : LV) (r : List LV), ps < p → hG bb n S0 M0 c0 f S t M p T C x r → pQ (L_X5_readNeeds_7 Knd) S0 M0 (L_X5_readNeeds_7 Knd f S (nI t)) (L_X12_readCond_19 gc M) (cE bb n S0 M0 c0 p0)) {g f : Nat} {S : CS} {t : Nat} {M : MS} {p T C : Nat} {a o : Bool} {s : Nat} {r : List LV} (hpp : ps ≤ p) (hs40 : r ≠ [] → s = 40) (REC : ∀ (f : Nat) (S : CS) (t : Nat) (M : MS) (y : LV) (r' : List LV), p < n → r = y :: r' → bG bb n S0 M0 c0 f S t M (p + 1) T C y r' → pQ (L_X5_readNeeds_7 Knd) S0 M0 (L_X5_readNeeds_7 Knd f S (nI t)) (bw (L_X12_behindTest_0 g M) (ctB gc)) (cE bb n S0 M0 c0 p0)) (h : bG bb n S0 M0 c0 f S t M p T C (a, o, s) r) : pQ (L_X5_readNeeds_7 Knd) S0 M0 (L_X5_readNeeds_7 Knd f S (nI t)) (bw (L_X12_behindTest_0 (g + 1) M) (ctB gc)) (cE bb n S0 M0 c0 p0) := by
  obtain ⟨cl, u, hr, ⟨cb1, cb2⟩, hr6, hlv, h16, hty, hcn, hC2, hcT, hu, hlen, hst⟩ := h
  have hT := hr.T6
  have hfu := hr.fu
  have hhi := hr.hi
  obtain ⟨f, rfl⟩ : ∃ j, f = j + 1 := ⟨f - 1, by omega⟩
  have hno : r.length = 0 ∨ (0 < r.length ∧ ¬ M.2 13 (r.length - 1) = 33) := by
    cases r with
    | nil => exact Or.inl rfl
    | cons y r' =>
      refine Or.inr ⟨Nat.succ_pos _, ?_⟩
      have hz := (hlv.2.2.1 (List.cons_ne_nil _ _)).1
      rw [hz]
      show ¬ nI s = 33
      rw [hs40 (List.cons_ne_nil _ _)]; decide
  have hcu : c33 u ≤ u.length := by
    have : ∀ (v : List Nat), c33 v ≤ v.length := by
      intro v
      induction v with
      | nil => exact Nat.le_refl _
      | cons q v ih =>
        show (if q = 33 then 1 else 0) + c33 v ≤ v.length + 1
        by_cases z : q = 33
        · rw [if_pos z]; omega
        · rw [if_neg z]; omega
    exact this u
  have hlc : (cl ++ ng u).length = cl.length + u.length := by rw [List.length_append, ng_len]
  have hlu : (u ++ wL ((a, o, s) :: r)).length = u.length + (wL ((a, o, s) :: r)).length := List.length_append
  rw [e_bt_m h16 hr6 hno]
  obtain ⟨M1, u1, e1, r1, ty1', l1, fi1, c1, hu1, w1⟩ := em_and (g := g) hr (by omega) hty hlv.1 hu
  rw [e1]
  have h161 : M1.1 16 = nI r.length := by rw [fi1.1 16 (by decide)]; exact h16
  have hh1 : f_X12_here M1 = some (sg bb n p) := m_here ho r1.m r1.hi
  have hk := nk_bt (f := f) ho hr.s hr.hi hr.tp hst
  have hba := bN_1 (a := a)
  have hbo := bN_1 (a := o)
  have hlc1 : (cl ++ ng u1).length = cl.length + u1.length := by rw [List.length_append, ng_len]
  have hw1 : (u1 ++ wL ((false, o, s) :: r)).length ≤ 60 := by rw [w1]; exact hlen
  have hlvr : lvT M1 r := lvT_cg hlv.2.2.2 (fun i _ => by rw [fi1.2 13 (by decide)]) (fun i _ => by rw [fi1.2 14 (by decide)]) (fun i _ => by rw [fi1.2 15 (by decide)])
  have h13 : r ≠ [] → M1.2 13 (r.length - 1) = nI s := fun z => by rw [fi1.2 13 (by decide)]; exact (hlv.2.2.1 z).1
  have haL := aL_t (a := a) (o := o) (s := s) (r := r)
  have hcnt := cnt_t (a := a) (o := o) (s := s) (r := r)
  by_cases z1 : sg bb n p = 38
  · have hp : p < n := sg_lt (c := 38) z1 (by decide)
    rw [e_btA_1 h161 hr6 (by rw [hh1, z1])]
    obtain ⟨S', q1, q2, q3, q4, q5, q6, q7, q8, q9⟩ := c_op (o := 38) (x := 0) (s := 2) (by decide) (by decide) (topO hs40) r1.c0 r1.ca r1.w0 r1.wa r1.wb hu1 r1.ns (by omega) (by omega) (by omega) (by omega) r1.s.p
    have hb : f_X5_readBehindTest S (sg bb n p) = some (true, S') := by rw [show sg bb n p = nI 38 from z1, bt_38]; exact q1
    rw [hk.1 S' hb, bw_some]
    have R2 := fR_op r1 hp (by decide) q2 q3 q4 q5 q6 q7 q8
    rw [c1, Nat.add_sub_cancel, ← wL_t] at R2
    have R3 := fR_M (M' := si (sa M1 14 (upd (M1.2 14) r.length 1)) 6 (M1.1 6 + 1)) R2 (show fI [16] [13, 14, 15] (si M1 6 (M1.1 6 + 1)) (sa (si M1 6 (M1.1 6 + 1)) 14 (upd (M1.2 14) r.length 1)) from fI_sa fI_rf (by decide))
    unfold ctB
    rw [if_neg (by decide), if_neg (by decide), lt_eq]
    have hcnt' := cnt_t (a := true) (o := o) (s := s) (r := r)
    have hcnt0 := cnt_t (a := false) (o := o) (s := s) (r := r)
    have haL' := aL_t (a := true) (o := o) (s := s) (r := r)
    have b1 : bN true = 1 := rfl
    have b0 : bN false = 0 := rfl
    refine IH f S' (t + 1) _ (p + 1) T C (true, o, s) r (by omega) ⟨cl ++ ng u1, R3, ⟨gI_tr cb1 q2 (by decide) (by decide), ?_⟩, hr6, ⟨pk_us, ?_, ?_, ?_⟩, h161, ?_, by omega, hC2, by omega, Or.inl q9⟩
    · exact fI_si (fI_sa (fI_tr cb2 fi1 (by decide) (by decide)) (by decide)) (by decide)
    · show M1.2 15 r.length = _
      rw [fi1.2 15 (by decide)]; exact hlv.2.1
    · intro z
      exact ⟨h13 z, Or.inr (hs40 z)⟩
    · exact lvT_cg hlvr (fun _ _ => rfl) (fun i hi => pk_un (by omega)) (fun _ _ => rfl)
    · rw [show cntL ((true, o, s) :: r) = cntL ((false, o, s) :: r) + 1 by omega]; exact ty1'
  · rw [e_btA_0 h161 hr6 hh1 z1]
    have R2 := fR_M (M' := sa M1 14 (upd (M1.2 14) r.length 0)) r1 (fI_sa fI_rf (by decide))
    have hM15 : M1.2 15 r.length = b2 o := by rw [fi1.2 15 (by decide)]; exact hlv.2.1
    obtain ⟨M3, u2, e2, r3, ty3, l3, fi3, c3, hu2, w3⟩ := em_or (g := g) R2 (by omega) ty1' hM15 hu1
    rw [e2]
    have h163 : M3.1 16 = nI r.length := by rw [fi3.1 16 (by decide)]; exact h161
    have hh3 : f_X12_here M3 = some (sg bb n p) := m_here ho r3.m r3.hi
    have hlc2 : (cl ++ ng u2).length = cl.length + u2.length := by rw [List.length_append, ng_len]
    have hw3 : (u2 ++ wL ((false, false, s) :: r)).length ≤ 60 := by rw [w3]; exact hw1
    have e13 : M3.2 13 = M1.2 13 := fi3.2 13 (by decide)
    have e14 : M3.2 14 = upd (M1.2 14) r.length 0 := fi3.2 14 (by decide)
    have e15 : M3.2 15 = M1.2 15 := fi3.2 15 (by decide)
    have hlvr3 : lvT M3 r := lvT_cg hlvr (fun i _ => by rw [e13]) (fun i hi => by rw [e14]; exact pk_un (by omega)) (fun i _ => by rw [e15])
    have h133 : r ≠ [] → M3.2 13 (r.length - 1) = nI s := fun z => by rw [e13]; exact h13 z
    have F3 : fI [6, 7, 8, 11, 12, 16] [9, 13, 14, 15] M0 M3 := fI_tr (fI_sa (fI_tr cb2 fi1 (by decide) (by decide)) (by decide)) fi3 (by decide) (by decide)
    have hcnt2 := cnt_t (a := false) (o := false) (s := s) (r := r)
    have b1 : bN true = 1 := rfl
    have b0 : bN false = 0 := rfl
    have hcc : c33 u2 = c33 u := c3.trans c1
    have haL2 := aL_t (a := false) (o := false) (s := s) (r := r)
    by_cases z2 : sg bb n p = 124
    · have hp : p < n := sg_lt (c := 124) z2 (by decide)
      rw [e_btC_1 h163 hr6 (by rw [hh3, z2])]
      obtain ⟨S', q1, q2, q3, q4, q5, q6, q7, q8, q9⟩ := c_op (o := 124) (x := 0) (s := 1) (by decide) (by decide) (topS (by decide) hs40) r3.c0 r3.ca r3.w0 r3.wa r3.wb hu2 r3.ns (by omega) (by omega) (by omega) (by omega) r3.s.p
      have hb : f_X5_readBehindTest S (sg bb n p) = some (true, S') := by rw [show sg bb n p = nI 124 from z2, bt_124]; exact q1
      rw [hk.1 S' hb, bw_some]
      have R4 := fR_op r3 hp (by decide) q2 q3 q4 q5 q6 q7 q8
      rw [hcc, Nat.add_sub_cancel, ← wL_o] at R4
      have R5 := fR_M (M' := si (sa M3 15 (upd (M3.2 15) r.length 1)) 6 (M3.1 6 + 1)) R4 (show fI [16] [13, 14, 15] (si M3 6 (M3.1 6 + 1)) (sa (si M3 6 (M3.1 6 + 1)) 15 (upd (M3.2 15) r.length 1)) from fI_sa fI_rf (by decide))
      unfold ctB
      rw [if_neg (by decide), if_neg (by decide), lt_eq]
      have hcnt' := cnt_t (a := false) (o := true) (s := s) (r := r)
      have haL' := aL_t (a := false) (o := true) (s := s) (r := r)
      refine IH f S' (t + 1) _ (p + 1) T C (false, true, s) r (by omega) ⟨cl ++ ng u2, R5, ⟨gI_tr cb1 q2 (by decide) (by decide), fI_si (fI_sa F3 (by decide)) (by decide)⟩, hr6, ⟨?_, pk_us, ?_, ?_⟩, h163, ?_, by omega, hC2, by omega, Or.inl q9⟩
      · show M3.2 14 r.length = _
        rw [e14, pk_us]; rfl
      · intro z
        exact ⟨h133 z, Or.inr (hs40 z)⟩
      · exact lvT_cg hlvr3 (fun _ _ => rfl) (fun _ _ => rfl) (fun i hi => pk_un (by omega))
      · rw [show cntL ((false, true, s) :: r) = cntL ((false, false, s) :: r) + 1 by omega]; exact ty3
    · rw [e_btC_0 h163 hr6 hh3 z2]
      have R4 := fR_M (M' := sa M3 15 (upd (M3.2 15) r.length 0)) r3 (fI_sa fI_rf (by decide))
      have F4 : fI [6, 7, 8, 11, 12, 16] [9, 13, 14, 15] M0 (sa M3 15 (upd (M3.2 15) r.length 0)) := fI_sa F3 (by decide)
      have h36 : M3.1 6 = nI p := r3.m.p
      have bad : ∀ (M' : MS), fI [6, 7, 8, 11, 12, 16] [9, 13, 14, 15] M0 M' → M'.1 7 = nI p → (sg bb n p = 41 → wL ((false, false, s) :: r) = []) → (sg bb n p = 59 → ¬ wL ((false, false, s) :: r) = []) → fBad S0 M0 (L_X5_readNeeds_7 Knd (f + 1) S (nI t)) (some (false, M')) := by
        intro M' hF h7 n3 n4
        obtain ⟨S', k1, k2, k3⟩ := bt_bad (M := sa M3 15 (upd (M3.2 15) r.length 0)) R4 (topS (by decide) hs40) hu2 (by omega) (by omega) (by omega) (by omega) z1 z2 n3 n4
        obtain ⟨S'', j1, j2, j3⟩ := hk.2 S' k1
        exact ⟨S'', M', rfl, j1, gI_tr (gI_tr (gI_tr gI_rf cb1 (by decide) (by decide)) k2 (by decide) (by decide)) j3 (fun _ z => z) (fun _ z => z), fI_tr fI_rf hF (by decide) (by decide), by rw [j2, k3, h7]⟩
      cases r with
      | nil =>
        rw [if_pos (show nI ([] : List LV).length = 0 from rfl), bw_some]
        unfold ctB
        rw [if_pos rfl, bw_id]
        by_cases z3 : sg bb n p = 59
        · have hp : p < n := sg_lt (c := 59) z3 (by decide)
          obtain ⟨M5, k1, k2, k3, k4⟩ := m_takes ho R4.m R4.hi 59 (by decide)
          have k1 : f_X12_takes (sa M3 15 (upd (M3.2 15) ([] : List LV).length 0)) 59 = some (decide (sg bb n p = nI 59), M5) := k1
          rw [k1, decide_eq_true (show sg bb n p = nI 59 from z3)]
          rw [if_pos (show sg bb n p = nI 59 from z3)] at k3 k4
          have R4' : fR bb n S (sa M3 15 (upd (M3.2 15) 0 0)) (f + 1) S t (sa M3 15 (upd (M3.2 15) 0 0)) p cl u2 [] T (0 + c33 u2) := by rw [hcc]; exact R4
          have h12S : S.1 12 = nI nd := by rw [cb1.1 12 (by decide)]; exact h12
          -- the reference only steps
          have hf5 : fI [6, 16] [13, 14, 15] (sa M3 15 (upd (M3.2 15) 0 0)) M5 := by
            refine ⟨fun j hj => ?_, fun j hj => k2.2 j (by simp)⟩
            by_cases j7 : j = 7
            · rw [j7]; exact k4
            · exact k2.1 j (fun z => by simp only [List.mem_cons, List.not_mem_nil, or_false] at z hj; omega)
          obtain ⟨S', y1, y2, y3, y4, y5, y6⟩ := cl_cd R4' hu2 (by omega) (by omega) hp hf5 k3.p h12S hnd
          have hb : f_X5_readBehindTest S (sg bb n p) = some (true, S') := by rw [show sg bb n p = nI 59 from z3, bt_59]; exact y1
          refine Or.inl ⟨M5, f, S', t + 1, rfl, hk.1 S' hb, p + 1, T, C, cl ++ ng u2, y6, by omega, y3, gI_tr (gI_tr gI_rf cb1 (by decide) (by decide)) y2 (by decide) (by decide), by rw [y4, h12], ?_, fI_tr F4 k2 (by decide) (by decide), ?_, ?_, hC2⟩
          · rw [y5, h12, nI_clamp (by omega), cb1.2.1 29 (by decide)]
          · exact ty3
          · omega
        · obtain ⟨M5, k1, k2, k3, k4⟩ := m_takes ho R4.m R4.hi 59 (by decide)
          have k1 : f_X12_takes (sa M3 15 (upd (M3.2 15) ([] : List LV).length 0)) 59 = some (decide (sg bb n p = nI 59), M5) := k1
          rw [k1, decide_eq_false (show ¬ sg bb n p = nI 59 from z3)]
          rw [if_neg (show ¬ sg bb n p = nI 59 from z3)] at k4
          exact Or.inr (bad M5 (fI_tr F4 k2 (by decide) (by decide)) k4 (fun _ => rfl) (fun q => absurd q z3))
      | cons y r' =>
        have hr6' : r'.length + 1 ≤ 6 := hr6
        rw [if_neg (show ¬ nI (y :: r').length = 0 from nI_ne0 (n := r'.length + 1) (by omega) (by omega))]
        have hs := hs40 (List.cons_ne_nil _ _)
        subst hs
        by_cases z4 : sg bb n p = 41
        · have hp : p < n := sg_lt (c := 41) z4 (by decide)
          rw [if_pos z4]
          rw [List.length_cons] at hr6
          have R4' : fR bb n S (sa M3 15 (upd (M3.2 15) (y :: r').length 0)) (f + 1) S t (sa M3 15 (upd (M3.2 15) (y :: r').length 0)) p cl u2 (40 :: wL (y :: r')) T (r'.length + 1 + c33 u2) := by rw [hcc]; exact R4
          have h6 : (si (si (sa M3 15 (upd (M3.2 15) (y :: r').length 0)) 6 (M3.1 6 + 1)) 16 (nI (y :: r').length - 1)).1 6 = nI (p + 1) := by
            show M3.1 6 + 1 = _
            rw [h36, nI_1]
          obtain ⟨S', y1, y2, y3, y4⟩ := cl_br R4' hu2 (by omega) (by omega) (by rw [← wL_n (s := 40)]; omega) hp (M' := si (si (sa M3 15 (upd (M3.2 15) (y :: r').length 0)) 6 (M3.1 6 + 1)) 16 (nI (y :: r').length - 1)) (fI_si (fI_si fI_rf (by decide)) (by decide)) h6
          have hb : f_X5_readBehindTest S (sg bb n p) = some (true, S') := by rw [show sg bb n p = nI 41 from z4, bt_41]; exact y1
          rw [hk.1 S' hb]
          have ha1 := aT_c (s := 40) (y := y) (r := r')
          rw [if_neg (by decide)] at ha1
          have hc1 : cntL ((false, false, 40) :: y :: r') = cntL (y :: r') := by rw [cnt_t]; show 0 + 0 + _ = _; omega
          have hwl := wL_len (r := r') (x := y)
          refine REC f S' (t + 1) _ y r' hp rfl ⟨cl ++ ng u2, [], by show fR bb n _ _ f _ _ _ _ _ _ _ T (r'.length + 0); exact y4, ⟨gI_tr cb1 y2 (by decide) (by decide), fI_si (fI_si F4 (by decide)) (by decide)⟩, by omega, ?_, ?_, ?_, ?_, hC2, by omega, fun q hq => absurd hq List.not_mem_nil, by show (wL (y :: r')).length ≤ 60; omega, Or.inr y3⟩
          · exact lvT_cg hlvr3 (fun _ _ => rfl) (fun _ _ => rfl) (fun i hi => pk_un (by omega))
          · show nI (r'.length + 1) - 1 = _
            exact nI_pred _
          · rw [app0, ← hc1]; exact ty3
          · rw [app0]; omega
        · rw [if_neg z4, bw_some]
          unfold ctB
          rw [if_neg (by decide), if_pos rfl]
          exact Or.inr (bad _ (fI_si F4 (by decide)) (by show M3.1 6 = _; exact h36) (fun q => absurd q z4) (fun _ => List.cons_ne_nil _ _))
end
