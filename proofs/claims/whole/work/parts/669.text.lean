/-! text -/
theorem xt_ahead {M : MS} {kk0 : MS → Option (Int32 × MS)} : ∃ M', L_X12_text_2 kk0 FU M 0 = kk0 M' ∧ fI [] [2] M M' ∧ ∀ x, x < 1177 → M'.2 2 x = M.2 0 x := by
  unfold L_X12_text_2
  refine lq2 (Q := fun o => ∃ M', o = kk0 M' ∧ fI [] [2] M M' ∧ ∀ x, x < 1177 → M'.2 2 x = M.2 0 x) 1177 (fun i M1 => fI [] [2] M M1 ∧ (∀ x, x < i → M1.2 2 x = M.2 0 x)) ?_ 0 rfl (Nat.zero_le _) (FU_gt (by omega)) ⟨fI_rf, fun x hx => (by omega)⟩
  rintro i M1 kk hi ⟨hg, h1⟩ hr
  by_cases c : i < 1177
  · rw [if_neg (fun h => by rw [show (1177 : Int32) = nI 1177 from rfl, nI_leI (by omega) (by omega)] at h; omega), chk_nI c (by decide), chk_nI c (by decide), nI_clamp (by omega), lt_eq, lt_eq, nI_1]
    refine hr _ c ⟨fI_sa hg (by decide), fun x hx => ?_⟩
    show upd (M1.2 2) i (M1.2 0 i) x = _
    by_cases z : x = i
    · subst z; rw [pk_us, hg.2 0 (by decide)]
    · rw [pk_un z]; exact h1 x (by omega)
  · have : i = 1177 := by omega
    subst this
    rw [if_pos (by decide)]
    exact ⟨M1, rfl, hg, h1⟩
theorem xt_back {M : MS} {kk0 : MS → Option (Int32 × MS)} : ∃ M', L_X12_text_135 kk0 FU M 0 = kk0 M' ∧ fI [] [0] M M' ∧ ∀ x, x < 1177 → M'.2 0 x = M.2 2 x := by
  unfold L_X12_text_135
  refine lq2 (Q := fun o => ∃ M', o = kk0 M' ∧ fI [] [0] M M' ∧ ∀ x, x < 1177 → M'.2 0 x = M.2 2 x) 1177 (fun i M1 => fI [] [0] M M1 ∧ (∀ x, x < i → M1.2 0 x = M.2 2 x)) ?_ 0 rfl (Nat.zero_le _) (FU_gt (by omega)) ⟨fI_rf, fun x hx => (by omega)⟩
  rintro i M1 kk hi ⟨hg, h1⟩ hr
  by_cases c : i < 1177
  · rw [if_neg (fun h => by rw [show (1177 : Int32) = nI 1177 from rfl, nI_leI (by omega) (by omega)] at h; omega), chk_nI c (by decide), chk_nI c (by decide), nI_clamp (by omega), lt_eq, lt_eq, nI_1]
    refine hr _ c ⟨fI_sa hg (by decide), fun x hx => ?_⟩
    show upd (M1.2 0) i (M1.2 2 i) x = _
    by_cases z : x = i
    · subst z; rw [pk_us, hg.2 2 (by decide)]
    · rw [pk_un z]; exact h1 x (by omega)
  · have : i = 1177 := by omega
    subst this
    rw [if_pos (by decide)]
    exact ⟨M1, rfl, hg, h1⟩
theorem xt_swap {M : MS} {kk0 : MS → Option (Int32 × MS)} : ∃ M', L_X12_text_76 kk0 FU M 0 = kk0 M' ∧ fI [] [0, 2] M M' ∧ (∀ x, x < 1177 → M'.2 0 x = M.2 2 x) ∧ ∀ x, x < 1177 → M'.2 2 x = M.2 0 x := by
  unfold L_X12_text_76
  refine lq2 (Q := fun o => ∃ M', o = kk0 M' ∧ fI [] [0, 2] M M' ∧ (∀ x, x < 1177 → M'.2 0 x = M.2 2 x) ∧ ∀ x, x < 1177 → M'.2 2 x = M.2 0 x) 1177 (fun i M1 => fI [] [0, 2] M M1 ∧ (∀ x, x < i → M1.2 0 x = M.2 2 x) ∧ (∀ x, x < i → M1.2 2 x = M.2 0 x) ∧ (∀ x, i ≤ x → M1.2 0 x = M.2 0 x) ∧ (∀ x, i ≤ x → M1.2 2 x = M.2 2 x)) ?_ 0 rfl (Nat.zero_le _) (FU_gt (by omega)) ⟨fI_rf, fun x hx => (by omega), fun x hx => (by omega), fun _ _ => rfl, fun _ _ => rfl⟩
  rintro i M1 kk hi ⟨hg, h1, h2, h3, h4⟩ hr
  by_cases c : i < 1177
  · rw [if_neg (fun h => by rw [show (1177 : Int32) = nI 1177 from rfl, nI_leI (by omega) (by omega)] at h; omega), chk_nI c (by decide), lt_eq, chk_nI c (by decide), chk_nI c (by decide), lt_eq, chk_nI c (by decide), lt_eq, lt_eq, nI_clamp (by omega), nI_1]
    refine hr _ c ⟨fI_sa (fI_sa hg (by decide)) (by decide), fun x hx => ?_, fun x hx => ?_, fun x hx => ?_, fun x hx => ?_⟩
    · show upd (M1.2 0) i (M1.2 2 i) x = _
      by_cases z : x = i
      · subst z; rw [pk_us]; exact h4 x (Nat.le_refl _)
      · rw [pk_un z]; exact h1 x (by omega)
    · show upd (M1.2 2) i (M1.2 0 i) x = _
      by_cases z : x = i
      · subst z; rw [pk_us]; exact h3 x (Nat.le_refl _)
      · rw [pk_un z]; exact h2 x (by omega)
    · show upd (M1.2 0) i (M1.2 2 i) x = _
      rw [pk_un (by omega)]; exact h3 x (by omega)
    · show upd (M1.2 2) i (M1.2 0 i) x = _
      rw [pk_un (by omega)]; exact h4 x (by omega)
  · have : i = 1177 := by omega
    subst this
    rw [if_pos (by decide)]
    exact ⟨M1, rfl, hg, h1, h2⟩
theorem m_count_x (M : MS) : ∃ x, f_X12_countItems M = some x := by
  unfold f_X12_countItems
  rw [chk_c0, chk_c1, chk_c2, chk_c3]
  exact ⟨_, rfl⟩
/-- a text was read: what is told stays, tape and fault change -/
theorem rOK_x {S S' : CS} {M M' : MS} {ka : List Nat} (hr : rOK S M) (hS : gI [1, 2, 3, 4, 5, 6, 7, 8, 9, 10, 11, 12, 13, 14, 15, 16] ka S S') (h33 : 33 ∉ ka) (h43 : 43 ∉ ka) (hM : fI [5, 6, 7, 8, 11, 12, 16] [0, 2, 9, 10, 13, 14, 15] M M') (t1 : S'.1 1 = nI 0) (t2 : M'.1 5 = nI 0) (hf : S'.1 5 = M'.1 7) : rOK S' M' := by
  refine ⟨⟨0, by decide, t1, t2, fun i hi => absurd hi (Nat.not_lt_zero _)⟩, hf, ?_, ?_, ?_, ?_, ?_, ?_⟩
  · rw [hM.1 21 (by decide)]; exact hr.ad
  · rw [hM.1 22 (by decide)]; exact hr.lf
  · rw [hS.1 17 (by decide), hM.1 29 (by decide), hS.2.1 33 h33, hM.2 27 (by decide)]; exact hr.ac
  · rw [hS.1 18 (by decide), hM.1 30 (by decide)]; exact hr.en
  · rw [hS.1 23 (by decide), hM.1 32 (by decide), hS.2.1 43 h43, hM.2 31 (by decide)]; exact hr.wr
  · rw [hS.1 19 (by decide)]; exact hr.rg
theorem RLW_x {T : XS} {M : MS} {W : WW} {Ws : List WW} {S' : CS} {M' : MS} {ka : List Nat} (h : RLW T M W Ws) (hc : tW W S') (hm : tA W (M'.2 0)) (hS : gI [1, 2, 3, 4, 5, 6, 7, 8, 9, 10, 11, 12, 13, 14, 15, 16] ka T.1 S') (h33 : 33 ∉ ka) (h43 : 43 ∉ ka) (hM : fI [5, 6, 7, 8, 11, 12, 16] [0, 2, 9, 10, 13, 14, 15] M M') (t1 : S'.1 1 = nI 0) (t2 : M'.1 5 = nI 0) (hf : S'.1 5 = M'.1 7) : RLW (S', T.2) M' W Ws := by
  refine ⟨h.w, hc, hm, rOK_x h.r hS h33 h43 hM t1 t2 hf, h.d12, ?_, ?_, h.dl, h.dd, ?_⟩
  · show S'.1 20 = _
    rw [hS.1 20 (by decide)]; exact h.dc
  · rw [hM.1 3 (by decide)]; exact h.dm
  · rw [hM.2 1 (by decide)]; exact h.dk
theorem q_text (T : XS) (M : MS) (h : RLL T M) : ∃ (r : Int32) (T' : XS) (M' : MS), fo_text T = some (r, T') ∧ fm_text M = some (r, M') ∧ RLL T' M' := by
  obtain ⟨W, Ws, hh⟩ := id h
  obtain ⟨n, ht⟩ := hh.r.tl
  obtain ⟨bb, ho, hbS, hbM⟩ := tape_bb (S := T.1) (M := M) (n := n) ht
  have hn := ho.n
  unfold fo_text fm_text f_X11_text f_X12_text f_X6_readItems
  obtain ⟨M1, a1, a2, a3⟩ := xt_ahead (M := M) (kk0 := fun S10 => bp (f_X12_countItems S10) (fun x11 => bp (f_X12_beginText S10) (fun S12 => L_X12_text_38 (fun S24 x25 => lt (si S24 5 0) fun S26 => bp (f_X12_countItems S26) (fun x27 => lt (x27 - x11) fun x28 => L_X12_text_76 (fun S40 => (if x25 = 0 then some ((-1), S40) else bp (f_X12_deed S40) (fun S41 => L_X12_text_135 (fun S51 => some (x28, S51)) FU S41 0))) FU S26 0)) FU S12 1)))
  have hA1 : tA W (M1.2 0) := by rw [a2.2 0 (by decide)]; exact hh.m
  rw [a1, m_count hA1, bp_some, c_sizes hh.w.V hh.c.V, bp_some]
  unfold f_X10_beginReading f_X12_beginText
  rw [lt_eq, lt_eq, bp_some, lt_eq, lt_eq, bp_some]
  have hS2 : rdS bb n 0 (ci (ci T.1 2 0) 5 (-1)) := ⟨ht.2.1, rfl, hbS⟩
  have hM2 : rdM bb n 0 (si (si M1 6 0) 7 (-1)) := ⟨by show M1.1 5 = _; rw [a2.1 5 (by decide)]; exact ht.2.2.1, rfl, by show ∀ i, i < n → M1.2 4 i &&& 255 = nI (bb i); rw [a2.2 4 (by decide)]; exact hbM⟩
  have hW2 : tW W (ci (ci T.1 2 0) 5 (-1)) := tW_gI hh.c (gI_ci (gI_ci (ks := [2, 5]) (ka := []) gI_rf (by decide)) (by decide)) (by decide) (by decide)
  have etd : (ci (ci T.1 2 0) 5 (-1)).1 0 = nI W.V.td := hh.c.V.td
  rw [etd]
  have hQ := t_loop (ci (ci T.1 2 0) 5 (-1)) (si (si M1 6 0) 7 (-1)) W (fun S24 x25 => lt (si S24 5 0) fun S26 => bp (f_X12_countItems S26) (fun x27 => lt (x27 - nI (szS W.V)) fun x28 => L_X12_text_76 (fun S40 => (if x25 = 0 then some ((-1), S40) else bp (f_X12_deed S40) (fun S41 => L_X12_text_135 (fun S51 => some (x28, S51)) FU S41 0))) FU S26 0)) ho 19998 _ _ W 0 0 (by omega) hS2 hM2 (Nat.zero_le _) (Nat.le_refl _) hh.w hW2 hA1 (pre_rf hh.w) rfl ⟨gI_rf, fI_rf, rfl⟩
  rw [← FU_2, show nI 0 = (0 : Int32) from rfl] at hQ
  obtain ⟨S', M', W', ⟨g1, g2, g3⟩, hw', hW', hpr, hQ⟩ := hQ
  have G1 : gI [1, 2, 3, 4, 5, 6, 7, 8, 9, 10, 11, 12, 13, 14, 15, 16] cAll T.1 (ci S' 1 0) := gI_ci (gI_tr (gI_ci (gI_ci gI_rf (by decide)) (by decide)) g1 (by decide) (by decide)) (by decide)
  have G2 : fI [5, 6, 7, 8, 11, 12, 16] [0, 2, 9, 10, 13, 14, 15] M (si M' 5 0) := fI_si (fI_tr (fI_si (fI_si (fI_tr fI_rf a2 (by decide) (by decide)) (by decide)) (by decide)) g2 (by decide) (by decide)) (by decide)
  have e2 : (si M' 5 0).2 2 = M1.2 2 := g2.2 2 (by decide)
  have hW5 : tW W' (ci S' 1 0) := tW_gI hW' (gI_ci (ks := [1]) (ka := []) gI_rf (by decide)) (by decide) (by decide)
  rcases hQ with ⟨k, hk, q1, q2, hA', hsz⟩ | ⟨q1, q2⟩
  · rw [q1, q2, bw_some, lt_eq, if_neg (nI_nm1 (by omega))]
    show ∃ r T' M'', bp (bp (f_X3_add (ci S' 1 0)) _) _ = some (r, T') ∧ lt (si M' 5 0) _ = some (r, M'') ∧ RLL T' M''
    rw [lt_eq, m_count (M := si M' 5 0) (W := W') hA', bp_some, lt_eq, hsz, pk_sub (by omega), show szS W.V + k - szS W.V = k by omega]
    obtain ⟨M3, b1, b2, b3, b4⟩ := xt_swap (M := si M' 5 0) (kk0 := fun S40 => (if (1 : Int32) = 0 then some ((-1 : Int32), S40) else bp (f_X12_deed S40) (fun S41 => L_X12_text_135 (fun S51 => some (nI k, S51)) FU S41 0)))
    rw [b1]
    show ∃ r T' M'', bp (bp (f_X3_add (ci S' 1 0)) _) _ = some (r, T') ∧ (if (1 : Int32) = 0 then _ else _) = some (r, M'') ∧ RLL T' M''
    rw [if_neg (by decide)]
    have G3 : fI [5, 6, 7, 8, 11, 12, 16] [0, 2, 9, 10, 13, 14, 15] M M3 := fI_tr G2 b2 (by decide) (by decide)
    have hA3 : tA W (M3.2 0) := tA_cg hh.w hh.m (fun i hi => (b3 i hi).trans ((congrFun e2 i).trans (a3 i hi)))
    have e7 : M3.1 7 = M'.1 7 := b2.1 7 (by decide)
    have e5 : M3.1 5 = nI 0 := b2.1 5 (by decide)
    have hh3 : RLW (ci (ci T.1 1 0) 5 (S'.1 5), T.2) M3 W Ws := RLW_x hh (tW_gI hh.c (gI_ci (gI_ci (ks := [1, 5]) (ka := []) gI_rf (by decide)) (by decide)) (by decide) (by decide)) hA3 (gI_ci (gI_ci (ka := []) gI_rf (by decide)) (by decide)) (by decide) (by decide) G3 rfl e5 (by show S'.1 5 = _; rw [e7]; exact g3)
    obtain ⟨M4, m1, m2, m3, m4⟩ := m_deed hh3
    obtain ⟨S7, s1, s2, s3, s4⟩ := c_add hh3 (S := ci S' 1 0) (G1.1 19 (by decide)) (G1.1 20 (by decide))
    obtain ⟨M5, d1, d2, d3⟩ := xt_back (M := M4) (kk0 := fun S51 => some (nI k, S51))
    rw [s1, m1, bp_some, bp_some, bp_some, d1]
    have hr5 : rOK (ci S' 1 0) M3 := rOK_x hh.r G1 (by decide) (by decide) G3 rfl e5 (by show S'.1 5 = _; rw [e7]; exact g3)
    have hA5 : tA W' (M5.2 0) := tA_cg hw' hA' (fun i hi => (d3 i hi).trans ((congrFun (m2.2 2 (by decide)) i).trans (b4 i hi)))
    refine ⟨_, _, _, rfl, rfl, ?_⟩
    show RLL (S7, addd (0, -1, -1, lN (szN W.V.ne W.V.np W.V.na W.V.n), none) T.2) M5
    refine RL_deed hh3 (W' := W') hw' (tW_gI hW5 s2 (by decide) (by decide)) hA5 (rOK_d (ks2 := [3]) (ka2 := [0, 1]) hr5 s2 (fI_tr (fI_tr fI_rf m2 (by decide) (by decide)) d2 (by decide) (by decide)) (by decide) (by decide) (by decide) (by decide) s4) s3 ?_ (dOK_text hw' hh.w hpr) ?_
    · rw [d2.1 3 (by decide)]; exact m3
    · rw [d2.2 1 (by decide)]; exact m4
  · rw [q1, q2, bw_some, lt_eq, if_pos rfl]
    obtain ⟨S8, c1, c2, c3⟩ := c_cut hw' hh.w hpr hW5
    rw [c1, bp_some, bp_some]
    obtain ⟨x, hx⟩ := m_count_x (si M' 5 0)
    show ∃ r T' M'', some (-1, _) = some (r, T') ∧ lt (si M' 5 0) _ = some (r, M'') ∧ RLL T' M''
    rw [lt_eq, hx, bp_some, lt_eq]
    obtain ⟨M3, b1, b2, b3, b4⟩ := xt_swap (M := si M' 5 0) (kk0 := fun S40 => (if (0 : Int32) = 0 then some ((-1 : Int32), S40) else bp (f_X12_deed S40) (fun S41 => L_X12_text_135 (fun S51 => some (x - nI (szS W.V), S51)) FU S41 0)))
    rw [b1]
    have G3 : fI [5, 6, 7, 8, 11, 12, 16] [0, 2, 9, 10, 13, 14, 15] M M3 := fI_tr G2 b2 (by decide) (by decide)
    have hA3 : tA W (M3.2 0) := tA_cg hh.w hh.m (fun i hi => (b3 i hi).trans ((congrFun e2 i).trans (a3 i hi)))
    have e7 : M3.1 7 = M'.1 7 := b2.1 7 (by decide)
    have e5 : M3.1 5 = nI 0 := b2.1 5 (by decide)
    refine ⟨-1, (S8, T.2), M3, rfl, ?_, W, Ws, RLW_x hh c2 hA3 (gI_tr G1 c3 (by decide) (by decide)) (by decide) (by decide) G3 ?_ e5 ?_⟩
    · show (if (0 : Int32) = 0 then _ else _) = _
      rw [if_pos rfl]
    · rw [c3.1 1 (by decide)]; rfl
    · rw [c3.1 5 (by decide), e7]; exact g3
