/-! needs: a whole cond -/
theorem e_rc {g : Nat} {M : MS} {x : Int32} (hh : f_X12_here M = some x) : L_X12_readCond_19 (g + 1) M = if x = 33 ∨ x = 40 then bw (f_X12_readOpen M) (fun x8 S9 => if x8 = true then L_X12_readCond_19 g S9 else some (false, S9)) else bw (f_X12_readCompared M) (fun x13 S14 => if x13 = true then bw (f_X12_behindTest S14) (ctB g) else some (false, S14)) := by
  unfold L_X12_readCond_19
  rw [lo1_succ]
  simp only [jn0]
  rw [hh, bp_some, bp_some]
  by_cases c1 : x = 33
  · rw [if_pos c1, if_pos (Or.inl c1)]
  · rw [if_neg c1]
    by_cases c2 : x = 40
    · rw [if_pos c2, if_pos (Or.inr c2)]
    · rw [if_neg c2, if_neg (fun z => z.elim c1 c2)]
      rfl
theorem e_cmp {M : MS} : f_X12_readCompared M = bw (f_X12_readSum M) (fun x1 S2 => if x1 = true then bp (f_X12_here S2) (fun x3 => if x3 = 60 ∨ x3 = 62 ∨ x3 = 61 then bw (f_X12_readSum (si S2 6 (S2.1 6 + 1))) (fun x5 S6 => if x5 = true then bp (f_X12_does S6 (20000000 + x3)) (fun S7 => some (true, S7)) else some (false, S6)) else some (false, si S2 7 (S2.1 6))) else some (false, S2)) := by
  unfold f_X12_readCompared f_X12_fails
  refine congrArg (bw _) (funext fun x1 => funext fun S2 => ?_)
  cases x1 with
  | false => rfl
  | true =>
    rw [if_pos rfl, if_pos rfl]
    refine congrArg (bp _) (funext fun x3 => ?_)
    unfold jn0
    dsimp only
    by_cases c1 : x3 = 60
    · rw [if_pos c1, if_pos (Or.inl c1)]; rfl
    · rw [if_neg c1]
      by_cases c2 : x3 = 62
      · rw [if_pos c2, if_pos (Or.inr (Or.inl c2))]; rfl
      · rw [if_neg c2]
        by_cases c3 : x3 = 61
        · rw [if_pos c3, if_pos (Or.inr (Or.inr c3))]; rfl
        · rw [if_neg c3, if_neg (fun z => z.elim c1 (fun z => z.elim c2 c3))]; rfl
theorem fBad_tr {S0 Sb : CS} {M0 Mb : MS} {oc : Option FN} {om : Option (Bool × MS)} (h : fBad Sb Mb oc om) (h1 : fC S0 Sb) (h2 : fN M0 Mb) : fBad S0 M0 oc om := by
  obtain ⟨S', M', a1, a2, a3, a4, a5⟩ := h
  exact ⟨S', M', a1, a2, gI_tr h1 a3 (fun _ z => z) (fun _ z => z), fI_tr h2 a4 (fun _ z => z) (fun _ z => z), a5⟩
section
variable {bb : Nat → Nat} {n : Nat} {S0 : CS} {M0 : MS} {c0 : List Int32} {p0 nd gc : Nat}
theorem bt_all {ps : Nat} (ho : bbO bb n) (h12 : S0.1 12 = nI nd) (hnd : nd < 8) (hps : p0 ≤ ps) (IH : ∀ (f : Nat) (S : CS) (t : Nat) (M : MS) (p T C : Nat) (x : LV) (r : List LV), ps < p → hG bb n S0 M0 c0 f S t M p T C x r → pQ (L_X5_readNeeds_7 Knd) S0 M0 (L_X5_readNeeds_7 Knd f S (nI t)) (L_X12_readCond_19 gc M) (cE bb n S0 M0 c0 p0)) : ∀ (k g f : Nat) (S : CS) (t : Nat) (M : MS) (p T C : Nat) (x : LV) (r : List LV), (n - p) + r.length ≤ k → k < g → ps ≤ p → bG bb n S0 M0 c0 f S t M p T C x r → pQ (L_X5_readNeeds_7 Knd) S0 M0 (L_X5_readNeeds_7 Knd f S (nI t)) (bw (L_X12_behindTest_0 g M) (ctB gc)) (cE bb n S0 M0 c0 p0) := by
  intro k
  induction k with
  | zero =>
    intro g f S t M p T C x r hk hg hpp h
    obtain ⟨g, rfl⟩ : ∃ j, g = j + 1 := ⟨g - 1, by omega⟩
    obtain ⟨a, o, s⟩ := x
    cases r with
    | nil => exact bt_main ho h12 hnd hps IH hpp (fun z => absurd rfl z) (fun _ _ _ _ y r' _ e _ => (by cases e)) h
    | cons y r' => rw [List.length_cons] at hk; omega
  | succ k ih =>
    intro g f S t M p T C x r hk hg hpp h
    obtain ⟨g, rfl⟩ : ∃ j, g = j + 1 := ⟨g - 1, by omega⟩
    obtain ⟨a, o, s⟩ := x
    cases r with
    | nil => exact bt_main ho h12 hnd hps IH hpp (fun z => absurd rfl z) (fun _ _ _ _ y r' _ e _ => (by cases e)) h
    | cons y r' =>
      have hk : (n - p) + (r'.length + 1) ≤ k + 1 := hk
      obtain ⟨cl, u, hr, ⟨cb1, cb2⟩, hr6, hlv, h16, hty, hcn, hC2, hcT, hu, hlen, hst⟩ := id h
      have hsx : (s = 33 ∧ a = false ∧ o = false) ∨ s = 40 := (hlv.2.2.1 (List.cons_ne_nil _ _)).2
      rcases hsx with ⟨rfl, rfl, rfl⟩ | hs
      · have hT := hr.T6
        have hr6 : r'.length + 1 ≤ 6 := hr6
        have h16 : M.1 16 = nI (r'.length + 1) := h16
        have h33 : M.2 13 r'.length = 33 := (hlv.2.2.1 (List.cons_ne_nil _ _)).1
        rw [e_bt_n h16 (by omega) h33]
        have hcnt : cntL ((false, false, 33) :: y :: r') = cntL (y :: r') := by rw [cnt_t]; show 0 + 0 + _ = _; omega
        have haL : aL ((false, false, 33) :: y :: r') = 1 + aL (y :: r') := by rw [aL_t, aT_c]; show 0 + 0 + (1 + _) = _; omega
        rw [hcnt] at hty hcT
        rw [haL] at hcn
        rw [wL_n] at hr hlen
        obtain ⟨M1, d1, d2, d3⟩ := fR_does (x := 20000033) hr (by decide) (by omega)
        rw [d1, bp_some]
        have ec : cl ++ ng (u ++ [33]) = (cl ++ ng u) ++ [-(nI 33)] := by rw [ng_app, List.append_assoc]; rfl
        have el : ((cl ++ ng u) ++ [-(nI 33)]).length = (cl ++ ng u).length + 1 := List.length_append
        have en : (y :: r').length + c33 u = r'.length + c33 (u ++ [33]) := by rw [c33_app]; show r'.length + 1 + c33 u = r'.length + (c33 u + (1 + 0)); omega
        have R := fR_M (M' := si M1 16 (M1.1 16 - 1)) d2 (fI_si fI_rf (by decide))
        rw [en] at R
        have e16 : M1.1 16 = nI (r'.length + 1) := by rw [d3.1 16 (by decide)]; exact h16
        refine ih g f S t _ p T C y r' (by omega) (by omega) hpp ⟨cl, u ++ [33], R, ⟨cb1, fI_si (fI_tr cb2 d3 (by decide) (by decide)) (by decide)⟩, by omega, ?_, ?_, ?_, ?_, hC2, hcT, ?_, ?_, hst⟩
        · exact lvT_cg hlv.2.2.2 (fun i _ => congrFun (d3.2 13 (by decide)) i) (fun i _ => congrFun (d3.2 14 (by decide)) i) (fun i _ => congrFun (d3.2 15 (by decide)) i)
        · show M1.1 16 - 1 = _
          rw [e16, nI_pred]
        · rw [ec]; exact tyD_1 (show tyD c0 (cl ++ ng u) (true :: List.replicate (cntL (y :: r')) true) from hty) ty_no
        · rw [ec, el]; omega
        · intro q hq
          rcases List.mem_append.mp hq with hq | hq
          · exact hu q hq
          · rw [List.mem_singleton.mp hq]; decide
        · rw [List.append_assoc]; exact hlen
      · exact bt_main ho h12 hnd hps IH hpp (fun _ => hs) (fun f S t M y2 r2 hp e hb => (by cases e; exact ih g f S t M (p + 1) T C y r' (by omega) (by omega) (by omega) hb)) h
theorem cond_open {g f : Nat} {S : CS} {t : Nat} {M : MS} {p T C : Nat} {x : LV} {r : List LV} {o : Nat} (ho : bbO bb n) (IH : ∀ (f : Nat) (S : CS) (t : Nat) (M : MS) (p' T C : Nat) (x : LV) (r : List LV), p < p' → hG bb n S0 M0 c0 f S t M p' T C x r → pQ (L_X5_readNeeds_7 Knd) S0 M0 (L_X5_readNeeds_7 Knd f S (nI t)) (L_X12_readCond_19 g M) (cE bb n S0 M0 c0 p0)) (hsg : sg bb n p = nI o) (hoo : o = 33 ∨ o = 40) (h : hG bb n S0 M0 c0 f S t M p T C x r) : pQ (L_X5_readNeeds_7 Knd) S0 M0 (L_X5_readNeeds_7 Knd f S (nI t)) (bw (f_X12_readOpen M) (fun x8 S9 => if x8 = true then L_X12_readCond_19 g S9 else some (false, S9))) (cE bb n S0 M0 c0 p0) := by
  obtain ⟨cl, hr, ⟨cb1, cb2⟩, hr6, hlv, h16, hty, hcn, hC2, hcT, h15⟩ := h
  have hfu := hr.fu
  have htp := hr.tp
  have ho256 : o < 256 := by omega
  have hp := sg_lt hsg ho256
  obtain ⟨f, rfl⟩ : ∃ j, f = j + 1 := ⟨f - 1, by omega⟩
  have hwl := wL_len (r := r) (x := x)
  have h14 : S.1 14 = nI r.length := hr.ns
  have w0 : S.1 11 = nI (wL (x :: r)).length := hr.w0
  have wa : stkW (S.2.1 28) (wL (x :: r)) := hr.wa
  have mc : M.1 11 = nI cl.length := by have := hr.mc; rw [app0] at this; exact this
  have ma : hM (M.2 9) cl := by have := hr.ma; rw [app0] at this; exact this
  have e6 : nI r.length = 6 ↔ r.length = 6 := nI_eq (b := 6) (by omega) (by omega)
  have hk : CLk (L_X5_readNeeds_7 Knd) (L_X5_readNeeds_7 Knd (f + 1) S (nI t)) f t (f_X5_readAtTest S (nI o)) := by
    refine nk ho hr.s hr.hi hr.tp (fun _ => ?_) (fun z => absurd z (by omega)) (fun z => absurd z (by omega))
    rcases h15 with h15 | ⟨h15, _, h12⟩
    · rw [nx_0 ho hr.s hr.hi h15, hsg]
    · rw [nx_4 ho hr.s hr.hi h15, if_neg h12, hsg]
  have ea : f_X5_readAtTest S (nI o) = (if S.1 14 = 6 then some (false, S) else f_X5_await (ci S 14 (S.1 14 + 1)) (nI o) 0) := by
    unfold f_X5_readAtTest
    simp only [jn0]
    rcases hoo with rfl | rfl
    · rw [if_neg (show ¬ nI 33 = 40 by decide), if_pos (show nI 33 = 33 from rfl), lt_eq, bw_id]
    · rw [if_pos (show nI 40 = 40 from rfl), lt_eq, bw_id]
  rw [h14] at ea
  unfold f_X12_readOpen f_X12_fails
  rw [h16, m_here ho hr.m hr.hi, bp_some, lt_eq, bw_some]
  by_cases z6 : r.length = 6
  · rw [if_pos (e6.mpr z6)] at ea ⊢
    rw [bw_some, if_neg (by decide)]
    obtain ⟨S'', j1, j2, j3⟩ := hk.2 S ea
    exact Or.inr ⟨S'', _, rfl, j1, gI_tr (gI_tr gI_rf cb1 (by decide) (by decide)) j3 (fun _ z => z) (fun _ z => z), fI_si (fI_tr fI_rf cb2 (by decide) (by decide)) (by decide), by rw [j2, hr.s.p]; exact hr.m.p.symm⟩
  · rw [if_neg (fun q => z6 (e6.mp q))] at ea ⊢
    rw [nI_1, c_await (S := ci S 14 (nI (r.length + 1))) (k := (wL (x :: r)).length) (p := p) w0 (by omega) hr.s.p] at ea
    rw [hk.1 _ ea, hsg, chk_nI (by omega) (by decide), nI_clamp (by omega), lt_eq, lt_eq]
    rw [show (sa M 13 (upd (M.2 13) r.length (nI o))).1 16 = nI r.length from h16, nI_1]
    rw [show (si (sa M 13 (upd (M.2 13) r.length (nI o))) 16 (nI (r.length + 1))).1 16 = nI (r.length + 1) from rfl, chk_nI (by omega) (by decide), nI_clamp (by omega), lt_eq, vb_0]
    rw [show (sa (si (sa M 13 (upd (M.2 13) r.length (nI o))) 16 (nI (r.length + 1))) 14 (upd ((si (sa M 13 (upd (M.2 13) r.length (nI o))) 16 (nI (r.length + 1))).2 14) (r.length + 1) 0)).1 16 = nI (r.length + 1) from rfl, chk_nI (by omega) (by decide), nI_clamp (by omega), lt_eq, lt_eq, bw_some, if_pos rfl]
    have hcnt : cntL ((false, false, o) :: x :: r) = cntL (x :: r) := by rw [cnt_t]; show 0 + 0 + _ = _; omega
    have haL : aL ((false, false, o) :: x :: r) ≤ 1 + aL (x :: r) := by
      rw [aL_t, aT_c]
      have b0 : bN false = 0 := rfl
      split <;> omega
    refine IH f _ (t + 1) _ (p + 1) T C (false, false, o) (x :: r) (by omega) ⟨cl, ⟨⟨hr.s.l, rfl, hr.s.b⟩, ⟨hr.m.l, ?_, hr.m.b⟩, hp, by omega, by omega, gI_rf, fI_rf, hr.c0, hr.ca, rfl, ?_, ?_, rfl, hr.sT, hr.mT, hr.T6, hr.mc, hr.ma, hr.fa⟩, ⟨?_, ?_⟩, by rw [List.length_cons]; omega, ?_, rfl, by rw [hcnt]; exact hty, by rw [List.length_cons]; omega, hC2, by rw [hcnt]; exact hcT, Or.inl rfl⟩
    · show M.1 6 + 1 = _
      rw [hr.m.p, nI_1]
    · show stkW (upd (S.2.1 28) (wL (x :: r)).length (nI o)) (o :: wL (x :: r))
      exact stkW_push wa
    · intro q hq
      have hq : q ∈ o :: wL (x :: r) := hq
      rcases List.mem_cons.mp hq with rfl | hq
      · exact ho256
      · exact hr.wb q hq
    · exact gI_ci (gI_ci (gI_ci (gI_ca (gI_ci cb1 (by decide)) (by decide)) (by decide)) (by decide)) (by decide)
    · exact fI_si (fI_sa (fI_sa (fI_si (fI_sa cb2 (by decide)) (by decide)) (by decide)) (by decide)) (by decide)
    · refine ⟨pk_us, pk_us, fun _ => ⟨pk_us, ?_⟩, ?_⟩
      · rcases hoo with z | z
        · exact Or.inl ⟨z, rfl, rfl⟩
        · exact Or.inr z
      · refine lvT_cg hlv (fun i hi => ?_) (fun i hi => ?_) (fun i hi => ?_)
        · rw [List.length_cons] at hi
          exact pk_un (by omega)
        · rw [List.length_cons] at hi
          exact pk_un (by omega)
        · rw [List.length_cons] at hi
          exact pk_un (by omega)
end
