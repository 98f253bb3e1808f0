/-! the acts are done -/
theorem lo1_succ {α1 ρ : Type} (body : (α1 → Option ρ) → α1 → Option ρ) (n : Nat) : lo1 body (n + 1) = body (lo1 body n) := rfl
theorem RL_a {T : XS} {M : MS} {S' : CS} {M' : MS} (h : RLL T M) (hS : gI [1, 2, 3, 4, 5, 17, 18] [2, 31, 32, 33] T.1 S') (hM : fI [5, 6, 7, 8, 28, 29, 30] [4, 26, 27] M M') {n : Nat} (ht : tapeR S' M' n) (hf : S'.1 5 = M'.1 7) (ha : ∃ n, n ≤ 30 ∧ S'.1 17 = nI n ∧ M'.1 29 = nI n ∧ ∀ i, i < n → S'.2.1 33 i = M'.2 27 i) (he : S'.1 18 = M'.1 30) : RLL (S', T.2) M' := by
  obtain ⟨W, Ws, h⟩ := h
  have hr := h.r
  refine ⟨W, Ws, h.w, tW_gI h.c hS (by decide) (by decide), ?_, ?_, h.d12, ?_, ?_, h.dl, h.dd, ?_⟩
  · rw [hM.2 0 (by decide)]; exact h.m
  · refine ⟨⟨n, ht⟩, hf, ?_, ?_, ha, he, ?_, ?_⟩
    · rw [hM.1 21 (by decide)]; exact hr.ad
    · rw [hM.1 22 (by decide)]; exact hr.lf
    · rw [hS.1 23 (by decide), hM.1 32 (by decide), hS.2.1 43 (by decide), hM.2 31 (by decide)]; exact hr.wr
    · rw [hS.1 19 (by decide)]; exact hr.rg
  · show S'.1 20 = _
    rw [hS.1 20 (by decide)]; exact h.dc
  · rw [hM.1 3 (by decide)]; exact h.dm
  · rw [hM.2 1 (by decide)]; exact h.dk
theorem c_numOf {S : CS} {i j : Nat} (hi : i < 30) (hj : j < 3) : f_X0_numberOf S (nI i) (nI j) = some (S.2.1 32 (3 * i + j)) := by
  have e : nI i * 3 + nI j = nI (3 * i + j) := by
    rw [show (3 : Int32) = nI 3 from rfl, pk_mul, nI_add]; congr 1; omega
  unfold f_X0_numberOf
  rw [lt_eq, e, if_neg (nI_pos (by omega)), if_neg (fun z => by rw [show (90 : Int32) = nI 90 from rfl, nI_leI (by omega) (by omega)] at z; omega), chk_nI (by omega) (by decide), nI_clamp (by omega)]
theorem c_letOf {S : CS} {i : Nat} (hi : i < 30) : f_X0_letterOf S (nI i) = some (S.2.1 31 i) := by
  unfold f_X0_letterOf
  rw [if_neg (nI_pos (by omega)), if_neg (fun z => by rw [show (30 : Int32) = nI 30 from rfl, nI_leI (by omega) (by omega)] at z; omega), chk_nI (by omega) (by decide), nI_clamp (by omega)]
theorem bp_id {α : Type} (o : Option α) : bp o (fun r => some r) = o := by cases o <;> rfl
theorem bw_id {α σ : Type} (o : Option (α × σ)) : bw o (fun x S => some (x, S)) = o := by cases o <;> rfl
theorem d_act {T : XS} {M : MS} {c i : Nat} (h : RLL T M) (hr : actR c T.1 M) (hi : i < c) (hc : c ≤ 30) : dRes T M (f_X11_perform T.1 (nI i)) (f_X12_doAct M (nI (4 * i))) := by
  obtain ⟨L, hL, q1, q2, q3⟩ := hr i hi
  have n0 : f_X0_numberOf T.1 (nI i) 0 = some (T.1.2.1 32 (3 * i)) := c_numOf (j := 0) (by omega) (by decide)
  have n1 : f_X0_numberOf T.1 (nI i) 1 = some (T.1.2.1 32 (3 * i + 1)) := c_numOf (j := 1) (by omega) (by decide)
  have n2 : f_X0_numberOf T.1 (nI i) 2 = some (T.1.2.1 32 (3 * i + 2)) := c_numOf (j := 2) (by omega) (by decide)
  have y1 : nI (4 * i) + 1 = nI (4 * i + 1) := nI_1 _
  have y2 : nI (4 * i) + 2 = nI (4 * i + 2) := nI_add _ 2
  have y3 : nI (4 * i) + 3 = nI (4 * i + 3) := nI_add _ 3
  have k0 : ∀ {ρ : Type} (F : Option ρ), chk (nI (4 * i)) 120 F = F := fun F => chk_nI (by omega) (by decide)
  have k1 : ∀ {ρ : Type} (F : Option ρ), chk (nI (4 * i + 1)) 120 F = F := fun F => chk_nI (by omega) (by decide)
  have k2 : ∀ {ρ : Type} (F : Option ρ), chk (nI (4 * i + 2)) 120 F = F := fun F => chk_nI (by omega) (by decide)
  have k3 : ∀ {ρ : Type} (F : Option ρ), chk (nI (4 * i + 3)) 120 F = F := fun F => chk_nI (by omega) (by decide)
  unfold f_X11_perform f_X12_doAct
  rw [n0, bp_some, c_letOf (by omega), bp_some, q1, y1, y2, y3, k0, nI_clamp (by omega), q2]
  simp only [k1, k2, k3, n1, n2, bp_some, bp_id, bw_id]
  rw [nI_clamp (show 4 * i + 1 < 2 ^ 31 by omega), nI_clamp (show 4 * i + 2 < 2 ^ 31 by omega), nI_clamp (show 4 * i + 3 < 2 ^ 31 by omega)]
  rcases hL with e | e | e | e | e
  · subst e
    have z0 : T.1.2.1 32 (3 * i) = M.2 26 (4 * i + 1) := q3 0 (by decide)
    rw [if_neg (show ¬ nI 114 = 100 by decide), if_neg (show ¬ nI 114 = 112 by decide), if_pos (show nI 114 = 114 from rfl), if_neg (show ¬ nI 114 = 100 by decide), if_neg (show ¬ nI 114 = 112 by decide), if_pos (show nI 114 = 114 from rfl), z0]
    exact d_ratify h _
  · subst e
    have z0 : T.1.2.1 32 (3 * i) = M.2 26 (4 * i + 1) := q3 0 (by decide)
    rw [if_neg (show ¬ nI 115 = 100 by decide), if_neg (show ¬ nI 115 = 112 by decide), if_neg (show ¬ nI 115 = 114 by decide), if_pos (show nI 115 = 115 from rfl), if_neg (show ¬ nI 115 = 100 by decide), if_neg (show ¬ nI 115 = 112 by decide), if_neg (show ¬ nI 115 = 114 by decide), if_pos (show nI 115 = 115 from rfl), z0]
    exact d_strike h _
  · subst e
    have z0 : T.1.2.1 32 (3 * i) = M.2 26 (4 * i + 1) := q3 0 (by decide)
    rw [if_pos (show nI 100 = 100 from rfl), if_pos (show nI 100 = 100 from rfl), z0]
    exact d_days h _
  · subst e
    have z0 : T.1.2.1 32 (3 * i) = M.2 26 (4 * i + 1) := q3 0 (by decide)
    have z1 : T.1.2.1 32 (3 * i + 1) = M.2 26 (4 * i + 2) := q3 1 (by decide)
    rw [if_neg (show ¬ nI 112 = 100 by decide), if_pos (show nI 112 = 112 from rfl), if_neg (show ¬ nI 112 = 100 by decide), if_pos (show nI 112 = 112 from rfl), z0, z1]
    exact d_paper h _ _
  · subst e
    have z0 : T.1.2.1 32 (3 * i) = M.2 26 (4 * i + 1) := q3 0 (by decide)
    have z1 : T.1.2.1 32 (3 * i + 1) = M.2 26 (4 * i + 2) := q3 1 (by decide)
    have z2 : T.1.2.1 32 (3 * i + 2) = M.2 26 (4 * i + 3) := q3 2 (by decide)
    rw [if_neg (show ¬ nI 98 = 100 by decide), if_neg (show ¬ nI 98 = 112 by decide), if_neg (show ¬ nI 98 = 114 by decide), if_neg (show ¬ nI 98 = 115 by decide), if_neg (show ¬ nI 98 = 100 by decide), if_neg (show ¬ nI 98 = 112 by decide), if_neg (show ¬ nI 98 = 114 by decide), if_neg (show ¬ nI 98 = 115 by decide), z0, z1, z2]
    exact d_ban h _ _ _
theorem fx_end {c m : Nat} {T : XS} (h : ¬ T.1.1 18 = -1) : fx_run c m T = some (T.1.1 17, T) := by
  cases m with
  | zero => rfl
  | succ m => unfold fx_run; rw [if_neg h]
theorem a_run {c : Nat} (hc : c ≤ 30) : ∀ (m fuel : Nat) (T : XS) (M : MS), m + 1 < fuel → m ≤ c → RLL T M → actR c T.1 M → M.1 28 = nI c → M.1 29 = nI (c - m) → ∃ r T' M', fx_run c m T = some (r, T') ∧ L_X12_acts_55 (fun S30 => some (S30.1 29, S30)) fuel M = some (r, M') ∧ RLL T' M' := by
  intro m
  induction m with
  | zero =>
    intro fuel T M hfu hm h hr h28 h29
    obtain ⟨fuel, rfl⟩ : ∃ f, fuel = f + 1 := ⟨fuel - 1, by omega⟩
    obtain ⟨W, Ws, hh⟩ := id h
    obtain ⟨d, d1, d2, d3, d4⟩ := hh.r.ac
    refine ⟨T.1.1 17, T, M, rfl, ?_, h⟩
    unfold L_X12_acts_55
    rw [lo1_succ, h28, if_pos (by rw [h29]; exact (nI_leI (by omega) (by omega)).mpr (by omega)), d2]
    show some (M.1 29, M) = _
    rw [d3]
  | succ m ih =>
    intro fuel T M hfu hm h hr h28 h29
    obtain ⟨fuel, rfl⟩ : ∃ f, fuel = f + 1 + 1 := ⟨fuel - 2, by omega⟩
    obtain ⟨W, Ws, hh⟩ := id h
    obtain ⟨d, d1, d2, d3, d4⟩ := hh.r.ac
    have h17 : T.1.1 17 = nI (c - (m + 1)) := by rw [d2, ← d3, h29]
    have hdc : d = c - (m + 1) := (nI_eq (by omega) (by omega)).mp (d3.symm.trans h29)
    have hnl : ¬ nI c ≤ nI (c - (m + 1)) := fun z => by rw [nI_leI (by omega) (by omega)] at z; omega
    have e4 : 4 * nI (c - (m + 1)) = nI (4 * (c - (m + 1))) := pk_mul 4 _
    by_cases c1 : T.1.1 18 = -1
    · obtain ⟨r, M1, r1, r2, r3, a1, a2, a3, a4, a5, a6, a7, a8, a9, a10⟩ := d_act h hr (i := c - (m + 1)) (by omega) hc
      obtain ⟨W1, Ws1, hh1⟩ := id r3
      obtain ⟨n1, ht1⟩ := hh1.r.tl
      have hr1 : actR c r.2.1 M1 := by
        intro i hi
        rw [a1, a2, a6]; exact hr i hi
      have e1 : fx_run c (m + 1) T = bp (f_X0_note r.2.1 (nI (c - (m + 1))) r.1) (fun S1 => fx_run c m (S1, xdl r.2.2 T.2)) := by
        show (if (T.1.1 18) = -1 then _ else _) = _
        rw [if_pos c1, r1, bp_some]
      have e2 : L_X12_acts_55 (fun S30 => some (S30.1 29, S30)) (fuel + 1 + 1) M = (if 0 ≤ r.1 then chk (M1.1 29) 30 (lt (sa M1 27 (upd (M1.2 27) (M1.1 29).toNatClampNeg r.1)) fun S26 => lt (si S26 29 (S26.1 29 + 1)) fun S27 => L_X12_acts_55 (fun S30 => some (S30.1 29, S30)) (fuel + 1) S27) else lt (si M1 30 (M1.1 29)) fun S28 => L_X12_acts_55 (fun S30 => some (S30.1 29, S30)) (fuel + 1) S28) := by
        unfold L_X12_acts_55
        rw [lo1_succ, h28, h29, if_neg hnl, if_pos (by rw [← hh.r.en]; exact c1), e4, r2, bw_some]
      rw [e1, e2]
      unfold f_X0_note
      rw [a4, h17, a9, h29]
      by_cases c2 : 0 ≤ r.1
      · rw [if_pos c2, if_pos c2, if_neg (fun z => by rw [show (30 : Int32) = nI 30 from rfl, nI_leI (by omega) (by omega)] at z; omega), chk_nI (by omega) (by decide), chk_nI (by omega) (by decide), nI_clamp (by omega)]
        simp only [lt_eq, bp_some]
        refine ih (fuel + 1) _ _ (by omega) (by omega) (RL_a r3 (gI_ci (gI_ca gI_rf (by decide)) (by decide)) (fI_si (fI_sa fI_rf (by decide)) (by decide)) ht1 hh1.r.ft ⟨c - m, by omega, ?_, ?_, ?_⟩ hh1.r.en) hr1 (by show M1.1 28 = _; rw [a8]; exact h28) ?_
        · show r.2.1.1 17 + 1 = _
          rw [a4, h17, nI_1]; congr 1; omega
        · show M1.1 29 + 1 = _
          rw [a9, h29, nI_1]; congr 1; omega
        · intro i hi
          show upd (r.2.1.2.1 33) (c - (m + 1)) r.1 i = upd (M1.2 27) (c - (m + 1)) r.1 i
          by_cases z : i = c - (m + 1)
          · subst z; rw [pk_us, pk_us]
          · rw [pk_un z, pk_un z, a3, a7]; exact d4 i (by omega)
        · show M1.1 29 + 1 = _
          rw [a9, h29, nI_1]; congr 1; omega
      · rw [if_neg c2, if_neg c2]
        simp only [lt_eq, bp_some]
        have hne : ¬ nI (c - (m + 1)) = -1 := nI_nm1 (by omega)
        refine ⟨nI (c - (m + 1)), (ci r.2.1 18 (nI (c - (m + 1))), xdl r.2.2 T.2), si M1 30 (nI (c - (m + 1))), ?_, ?_, ?_⟩
        · rw [fx_end (T := (ci r.2.1 18 (nI (c - (m + 1))), xdl r.2.2 T.2)) hne]
          show some (r.2.1.1 17, _) = _
          rw [a4, h17]
        · have w28 : (si M1 30 (nI (c - (m + 1)))).1 28 = nI c := by show M1.1 28 = _; rw [a8]; exact h28
          have w29 : (si M1 30 (nI (c - (m + 1)))).1 29 = nI (c - (m + 1)) := by show M1.1 29 = _; rw [a9]; exact h29
          have w30 : (si M1 30 (nI (c - (m + 1)))).1 30 = nI (c - (m + 1)) := rfl
          unfold L_X12_acts_55
          rw [lo1_succ, w28, w29, if_neg hnl, w30, if_neg hne]
          show some ((si M1 30 (nI (c - (m + 1)))).1 29, _) = _
          rw [w29]
        · refine RL_a r3 (gI_ci gI_rf (by decide)) (fI_si fI_rf (by decide)) ht1 hh1.r.ft ?_ rfl
          exact hh1.r.ac
    · refine ⟨T.1.1 17, T, M, fx_end c1, ?_, h⟩
      unfold L_X12_acts_55
      rw [lo1_succ, h28, h29, if_neg hnl, if_neg (by rw [← hh.r.en]; exact c1), h17]
      show some (M.1 29, M) = _
      rw [h29]
theorem tape_bb {S : CS} {M : MS} {n : Nat} (h : tapeR S M n) : ∃ bb : Nat → Nat, bbO bb n ∧ (∀ i, i < n → S.2.1 2 i = nI (bb i)) ∧ (∀ i, i < n → M.2 4 i &&& 255 = nI (bb i)) := by
  have hx : ∀ i, i < n → (S.2.1 2 i).toNatClampNeg < 256 ∧ S.2.1 2 i = nI (S.2.1 2 i).toNatClampNeg := by
    intro i hi
    obtain ⟨⟨b, hb, e⟩, _⟩ := h.2.2.2 i hi
    rw [e, nI_clamp (by omega)]
    exact ⟨hb, rfl⟩
  exact ⟨fun i => (S.2.1 2 i).toNatClampNeg, ⟨h.1, fun i hi => (hx i hi).1⟩, fun i hi => (hx i hi).2, fun i hi => (h.2.2.2 i hi).2.trans (hx i hi).2⟩
