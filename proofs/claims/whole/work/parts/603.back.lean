theorem q_back (T : XS) (M : MS) (h : RLL T M) : ∃ (r : Int32) (T' : XS) (M' : MS), fo_back T = some (r, T') ∧ fm_back M = some (r, M') ∧ RLL T' M' := by
  obtain ⟨W, Ws, hh⟩ := id h
  obtain ⟨S, dl⟩ := T
  have h12 := hh.d12
  have hdl := hh.dl
  have hdd := hh.dd
  have hdc : S.1 20 = nI dl.length := hh.dc
  have hdm := hh.dm
  unfold fo_back fm_back f_X12_back
  rw [hdm]
  cases dl with
  | nil =>
    rw [if_pos (show nI ([] : List DR).length = 0 from rfl)]
    exact ⟨_, _, _, rfl, rfl, h⟩
  | cons d ds =>
    cases Ws with
    | nil => exact absurd hdd (by unfold dch; exact id)
    | cons W1 Ws =>
      obtain ⟨hd, hw1, hdd⟩ := hdd
      have hds : ds.length ≤ 11 := by have : (d :: ds).length ≤ 12 := h12; rw [List.length_cons] at this; omega
      have hln : (d :: ds).length = ds.length + 1 := rfl
      have hWl : Ws.length = ds.length := by have : (W1 :: Ws).length = (d :: ds).length := hdl; rw [List.length_cons, List.length_cons] at this; omega
      show ∃ (r : Int32) (T' : XS) (M' : MS), fx_back (S, d :: ds) = some (r, T') ∧ _ ∧ _
      unfold fx_back
      show ∃ (r : Int32) (T' : XS) (M' : MS), bp (f_X3_takeLatest S) (fun r => bp (f_X11_undo r.2 d) (fun S => some (S.1 20, (S, ds)))) = some (r, T') ∧ _ ∧ _
      obtain ⟨n, hn, en⟩ := hh.r.rg
      have en : S.1 19 = nI n := en
      -- the ring
      have ht : ∃ x S1, f_X3_takeLatest S = some (x, S1) ∧ gI [19, 20] [] S S1 ∧ S1.1 20 = nI ds.length ∧ ∃ n, n < 12 ∧ S1.1 19 = nI n := by
        unfold f_X3_takeLatest
        rw [hdc, hln, if_neg (nI_ne0 (by omega) (by omega)), nI_pred, lt_eq, lt_eq]
        have e1 : (ci S 20 (nI ds.length)).1 19 = nI n := en
        have e2 : nI n + 12 - 1 - (nI n + 12 - 1) / 12 * 12 = nI ((n + 11) % 12) := by
          rw [show (12 : Int32) = nI 12 from rfl, nI_add, show n + 12 = (n + 11) + 1 by omega, nI_pred, pk_rem (by omega) (by decide) (by decide)]
        rw [e1, e2]
        have e3 : (ci (ci S 20 (nI ds.length)) 19 (nI ((n + 11) % 12))).1 19 = nI ((n + 11) % 12) := rfl
        rw [e3, chk_nI (Nat.mod_lt _ (by decide)) (by decide)]
        exact ⟨_, _, rfl, gI_ci (gI_ci gI_rf (by decide)) (by decide), rfl, _, Nat.mod_lt _ (by decide), rfl⟩
      obtain ⟨x, S1, t1, t2, t3, t4⟩ := ht
      rw [t1, bp_some]
      obtain ⟨S2, u1, u2, u3⟩ := hd S1 (tW_gI hh.c t2 (by decide) (by decide))
      rw [u1, bp_some, u3.1 20 (by decide), t3]
      rw [hln, if_neg (nI_ne0 (by omega) (by omega)), nI_pred, lt_eq]
      -- the reference's row comes back
      have hm : ∃ M', L_X12_back_21 (fun S11 => some (S11.1 3, S11)) FU (si M 3 (nI ds.length)) 0 = some (nI ds.length, M') ∧ fI [] [0] (si M 3 (nI ds.length)) M' ∧ ∀ i, i < 1177 → M'.2 0 i = M.2 1 (1177 * ds.length + i) := by
        unfold L_X12_back_21
        refine lq2 (Q := fun o => ∃ M', o = some (nI ds.length, M') ∧ fI [] [0] (si M 3 (nI ds.length)) M' ∧ ∀ i, i < 1177 → M'.2 0 i = M.2 1 (1177 * ds.length + i)) 1177 (fun i M1 => fI [] [0] (si M 3 (nI ds.length)) M1 ∧ ∀ x, x < i → M1.2 0 x = M.2 1 (1177 * ds.length + x)) ?_ 0 rfl (Nat.zero_le _) (FU_gt (by omega)) ⟨fI_rf, fun x hx => (by omega)⟩
        rintro i M1 kk hi ⟨hg, h1⟩ hr
        have e3 : M1.1 3 = nI ds.length := hg.1 3 (by decide)
        by_cases c : i < 1177
        · have e : (1177 : Int32) * M1.1 3 + nI i = nI (1177 * ds.length + i) := by rw [e3, show (1177 : Int32) = nI 1177 from rfl, pk_mul, nI_add]
          have e1 : M1.2 1 = M.2 1 := hg.2 1 (by decide)
          rw [if_neg (fun h => by rw [show (1177 : Int32) = nI 1177 from rfl, nI_leI (by omega) (by omega)] at h; omega), e, chk_nI (by omega) (by decide), chk_nI c (by decide), nI_clamp (by omega), nI_clamp (by omega), lt_eq, lt_eq, nI_1, e1]
          refine hr _ c ⟨fI_sa hg (by decide), fun x hx => ?_⟩
          show upd (M1.2 0) i _ x = _
          by_cases z : x = i
          · subst z; rw [pk_us]
          · rw [pk_un z]; exact h1 x (by omega)
        · have : i = 1177 := by omega
          subst this
          rw [if_pos (by decide)]
          exact ⟨M1, by dsimp only; rw [e3], hg, h1⟩
      obtain ⟨M', m1, m2, m3⟩ := hm
      rw [m1]
      refine ⟨_, _, _, rfl, rfl, W1, Ws, hw1, u2, ?_, ?_, ?_, ?_, ?_, hWl, hdd, ?_⟩
      · have := hh.dk 0 W1 rfl
        refine tA_cg hw1 this (fun i hi => ?_)
        rw [m3 i hi, List.length_cons, hWl]; rfl
      · refine rOK_fr hh.r ?_ ?_ ?_ ?_ ?_
        · intro k hk
          have a1 : k ∉ [0, 6, 7, 8, 9, 24, 25] := by revert k; decide
          have a2 : k ∉ [19, 20] := by revert k; decide
          show S2.1 k = S.1 k
          rw [u3.1 k a1, t2.1 k a2]
        · intro k hk
          have a1 : k ∉ [21, 22, 23, 24, 46, 47, 48, 50, 51, 52] := by revert k; decide
          show S2.2.1 k = S.2.1 k
          rw [u3.2 k a1, t2.2.1 k (by simp)]
        · intro k hk
          have a1 : k ≠ 3 := by revert k; decide
          rw [m2.1 k (by simp)]; exact up_ne a1
        · intro k hk
          have a1 : k ∉ [0] := by revert k; decide
          exact m2.2 k a1
        · obtain ⟨n', hn', e'⟩ := t4
          exact ⟨n', hn', by show S2.1 19 = _; rw [u3.1 19 (by decide)]; exact e'⟩
      · show ds.length ≤ 12; omega
      · show S2.1 20 = nI ds.length
        rw [u3.1 20 (by decide)]; exact t3
      · show M'.1 3 = nI ds.length
        rw [m2.1 3 (by simp)]; rfl
      · intro j W' hj
        have := hh.dk (j + 1) W' (by rw [List.getElem?_cons_succ]; exact hj)
        have e1 : M'.2 1 = M.2 1 := m2.2 1 (by decide)
        rw [e1]
        have e2 : (W1 :: Ws).length - 1 - (j + 1) = Ws.length - 1 - j := by rw [List.length_cons]; omega
        rw [e2] at this
        exact this
