/-! needs: the reference copies, the question -/
theorem xn_beg {c1 : Nat} {M : MS} {kk0 : MS → Option (Int32 × MS)} (hc : c1 ≤ 8) : ∃ M', L_X12_needs_106 (nI c1) kk0 FU M 0 = kk0 M' ∧ fI [] [0] M M' ∧ (∀ x, x ≤ c1 → M'.2 0 (726 + x) = M.2 10 x) ∧ ∀ x, x < 726 ∨ 726 + c1 < x → M'.2 0 x = M.2 0 x := by
  unfold L_X12_needs_106
  refine lq2 (Q := fun o => ∃ M', o = kk0 M' ∧ fI [] [0] M M' ∧ (∀ x, x ≤ c1 → M'.2 0 (726 + x) = M.2 10 x) ∧ ∀ x, x < 726 ∨ 726 + c1 < x → M'.2 0 x = M.2 0 x) (c1 + 1) (fun i M1 => fI [] [0] M M1 ∧ (∀ x, x < i → M1.2 0 (726 + x) = M.2 10 x) ∧ ∀ x, x < 726 ∨ 726 + c1 < x → M1.2 0 x = M.2 0 x) ?_ 0 rfl (Nat.zero_le _) (FU_gt (by omega)) ⟨fI_rf, fun x hx => (by omega), fun _ _ => rfl⟩
  rintro i M1 kk hi ⟨hg, h1, h2⟩ hr
  by_cases c : i < c1 + 1
  · have e : (726 : Int32) + nI i = nI (726 + i) := by rw [show (726 : Int32) = nI 726 from rfl, nI_add]
    rw [if_neg (fun h => by rw [nI_ltI (by omega) (by omega)] at h; omega), chk_nI (by omega) (by decide), e, chk_nI (by omega) (by decide), nI_clamp (by omega), nI_clamp (by omega), lt_eq, lt_eq, nI_1]
    refine hr _ c ⟨fI_sa hg (by decide), fun x hx => ?_, fun x hx => ?_⟩
    · show upd (M1.2 0) (726 + i) (M1.2 10 i) (726 + x) = _
      by_cases z : x = i
      · subst z; rw [pk_us, hg.2 10 (by decide)]
      · rw [pk_un (by omega)]; exact h1 x (by omega)
    · show upd (M1.2 0) (726 + i) (M1.2 10 i) x = _
      rw [pk_un (by omega)]; exact h2 x hx
  · have : i = c1 + 1 := by omega
    subst this
    rw [if_pos ((nI_ltI (by omega) (by omega)).mpr (Nat.lt_succ_self _))]
    exact ⟨M1, rfl, hg, fun x hx => h1 x (by omega), h2⟩
theorem xn_copy {M : MS} {k : Nat} {kk0 : MS → Option (Int32 × MS)} (h11 : M.1 11 = nI k) (hk : k ≤ 310) : ∃ M', L_X12_needs_135 kk0 FU M 0 = kk0 M' ∧ fI [] [0] M M' ∧ (∀ x, x < k → M'.2 0 (735 + x) = M.2 9 x) ∧ ∀ x, x < 735 ∨ 735 + k ≤ x → M'.2 0 x = M.2 0 x := by
  unfold L_X12_needs_135
  refine lq2 (Q := fun o => ∃ M', o = kk0 M' ∧ fI [] [0] M M' ∧ (∀ x, x < k → M'.2 0 (735 + x) = M.2 9 x) ∧ ∀ x, x < 735 ∨ 735 + k ≤ x → M'.2 0 x = M.2 0 x) k (fun i M1 => fI [] [0] M M1 ∧ (∀ x, x < i → M1.2 0 (735 + x) = M.2 9 x) ∧ ∀ x, x < 735 ∨ 735 + k ≤ x → M1.2 0 x = M.2 0 x) ?_ 0 rfl (Nat.zero_le _) (FU_gt (by omega)) ⟨fI_rf, fun x hx => (by omega), fun _ _ => rfl⟩
  rintro i M1 kk hi ⟨hg, h1, h2⟩ hr
  have e11 : M1.1 11 = nI k := by rw [hg.1 11 (by simp)]; exact h11
  by_cases c : i < k
  · have e : (735 : Int32) + nI i = nI (735 + i) := by rw [show (735 : Int32) = nI 735 from rfl, nI_add]
    rw [e11, if_neg (fun h => by rw [nI_leI (by omega) (by omega)] at h; omega), chk_nI (by omega) (by decide), e, chk_nI (by omega) (by decide), nI_clamp (by omega), nI_clamp (by omega), lt_eq, lt_eq, nI_1]
    refine hr _ c ⟨fI_sa hg (by decide), fun x hx => ?_, fun x hx => ?_⟩
    · show upd (M1.2 0) (735 + i) (M1.2 9 i) (735 + x) = _
      by_cases z : x = i
      · subst z; rw [pk_us, hg.2 9 (by decide)]
      · rw [pk_un (by omega)]; exact h1 x (by omega)
    · show upd (M1.2 0) (735 + i) (M1.2 9 i) x = _
      rw [pk_un (by omega)]; exact h2 x hx
  · have : i = k := by omega
    subst this
    rw [e11, if_pos ((nI_leI (by omega) (by omega)).mpr (Nat.le_refl _))]
    exact ⟨M1, rfl, hg, h1, h2⟩
theorem tA_N {W : WW} {A B : Nat → Int32} {es : List Nat} {cs : List Int32} (hw : WOK W) (h : tA W A) (hc : ∀ i, i < 725 ∨ 1045 ≤ i → B i = A i) (h1 : B 725 = nI es.length) (h2 : B 726 = 0) (h3 : ∀ i, i < es.length → B (727 + i) = nI (es.getD i 0)) (h4 : ∀ i, i < cs.length → B (735 + i) = mcode (cs.getD i 0)) : tA (W.wN es cs) B :=
  ⟨(show tR W.V B from tR_cg hw h.R (fun i hi => hc i (by omega))), h1, h2, h3, h4, (show B 1045 = nI W.st by rw [hc _ (by omega)]; exact h.st), (show B 1046 = nI W.sc.length by rw [hc _ (by omega)]; exact h.sd), (show ∀ i, i < W.sc.length → B (1047 + i) = mcode (W.sc.getD i 0) from fun i hi => by rw [hc _ (by omega)]; exact h.sc i hi)⟩
theorem WOK_N {W : WW} {es : List Nat} {cs : List Int32} (hw : WOK W) (h : nOK es cs) : WOK (W.wN es cs) := ⟨hw.V, hw.so, hw.me, hw.le, h, hw.s, hw.dy⟩
theorem tW_N {W : WW} {S : CS} {es : List Nat} {cs : List Int32} {code ends sk : Nat → Int32} {x : Int32} (h : tW W S) (hc : hC code cs) (he : ∀ i, i < es.length → ends i = nI (es.getD i 0)) : tW (W.wN es cs) (fset S 45 24 cs.length code es.length ends sk x) := ⟨h.V, h.o, rfl, he, rfl, hc, h.sl, h.se, h.scl, h.sc⟩
theorem dOK_N {W : WW} {S6 : CS} {es : List Nat} {cs : List Int32} (h6 : tW W S6) : dOK (1, -1, -1, 0, some (ofv S6 45 24)) (W.wN es cs) W := by
  intro S hS
  refine ⟨fset S 45 24 (S6.2.2 46) (S6.2.1 46) (S6.2.2 47) (S6.2.1 47) (S6.2.1 48) (S6.1 24), ?_, ?_, gU_fs (Or.inl rfl) (Or.inl rfl)⟩
  · unfold f_X11_undo
    dsimp only
    rw [if_pos rfl]; rfl
  · exact ⟨hS.V, hS.o, h6.nl, h6.ne, h6.ncl, h6.nc, hS.sl, hS.se, hS.scl, hS.sc⟩
def Knm : MS → Int32 → Int32 → Option (Int32 × MS) := fun S25 x26 x27 => lt (si S25 5 0) fun S28 => (if x27 = 0 then some ((-1), S28) else chk x26 9 (lt (sa S28 10 (upd (S28.2 10) x26.toNatClampNeg (S28.1 11))) fun S29 => bp (f_X12_deed S29) (fun S30 => chk 725 1177 (lt (sa S30 0 (upd (S30.2 0) (725 : Int32).toNatClampNeg x26)) fun S31 => L_X12_needs_106 x26 (fun S41 => L_X12_needs_135 (fun S51 => some (x26, S51)) FU S41 0) FU S31 0))))
theorem m_needs_e {M : MS} : f_X12_needs M = L_X12_needs_8 Knm FU (Mbeg M) (nI ([] : List Nat).length) 1 := by
  unfold f_X12_needs
  rw [m_begin, bp_some]
  rfl
theorem nd_all {bb : Nat → Nat} {n : Nat} {S : CS} {M : MS} (ho : bbO bb n) (h : rdS bb n 0 S) (hm : rdM bb n 0 (Mbeg M)) (hf : S.1 5 = -1) : ndQ S M Knm (f_X5_readNeeds S) (f_X12_needs M) := by
  have hn := ho.n
  have gB : ∀ x, fC S (Sbeg S x) := fun x => gI_ci (gI_ci (gI_ci (gI_ci (gI_ci (gI_ci (gI_ci gI_rf (by decide)) (by decide)) (by decide)) (by decide)) (by decide)) (by decide)) (by decide)
  have gM : fN M (Mbeg M) := fI_si (fI_si (fI_si (fI_si fI_rf (by decide)) (by decide)) (by decide)) (by decide)
  rw [m_needs_e]
  unfold f_X5_readNeeds
  rw [c_begin, bp_some]
  have hr0 : fR bb n (Sbeg S 4) (Mbeg M) FU (Sbeg S 4) 0 (Mbeg M) 0 [] [] [] 0 0 := ⟨⟨h.l, h.p, h.b⟩, hm, Nat.zero_le _, Nat.le_refl _, by have := FU_gt (n := n + 2) (by omega); omega, gI_rf, fI_rf, rfl, fun i hi => absurd hi (Nat.not_lt_zero _), rfl, trivial, fun o ho => absurd ho List.not_mem_nil, rfl, rfl, rfl, by omega, rfl, fun i hi => absurd hi (Nat.not_lt_zero _), hf⟩
  exact nd_loop Knm ho n FU FU (Sbeg S 4) 0 (Mbeg M) 0 0 0 [] [] (Nat.sub_le _ _) (FU_gt (by omega)) ⟨hr0, rfl, gB 4, gM, rfl, fun i hi => absurd hi (Nat.not_lt_zero _), fun i hi => absurd hi (Nat.not_lt_zero _), bgn_0, ⟨by decide, by decide, fun i hi => absurd hi (Nat.not_lt_zero _), fun i hi => absurd hi (Nat.not_lt_zero _)⟩, Nat.zero_le _, Nat.zero_le _⟩
theorem q_needs (T : XS) (M : MS) (h : RLL T M) : ∃ (r : Int32) (T' : XS) (M' : MS), fo_needs T = some (r, T') ∧ fm_needs M = some (r, M') ∧ RLL T' M' := by
  obtain ⟨W, Ws, hh⟩ := id h
  obtain ⟨n, ht⟩ := hh.r.tl
  obtain ⟨bb, ho, hbS, hbM⟩ := tape_bb (S := T.1) (M := M) (n := n) ht
  have hn := ho.n
  have hS1 : rdS bb n 0 (ci (ci T.1 2 0) 5 (-1)) := ⟨ht.2.1, rfl, hbS⟩
  have hM1 : rdM bb n 0 (Mbeg M) := ⟨ht.2.2.1, rfl, hbM⟩
  have hQ := nd_all ho hS1 hM1 rfl
  unfold fo_needs fm_needs f_X11_needs f_X10_beginReading
  rw [lt_eq, lt_eq, bp_some]
  rcases hQ with ⟨S', M', x, a1, a2, a3, a4, a5⟩ | ⟨S', M', cl, es, a1, a2, a3, a4, a5, b1, b2, b3, b4, b5, b6, b7⟩
  · rw [a1, a2, bp_some, lt_eq]
    refine ⟨-1, (ci S' 1 0, T.2), si M' 5 0, rfl, ?_, W, Ws, RLW_f hh a3 a4 a5⟩
    show lt (si M' 5 0) _ = _
    rw [lt_eq, if_pos rfl]
  · have hes := b7.n8
    have hcl := b7.c
    have hh3 : RLW (ci S' 1 0, T.2) (sa (si M' 5 0) 10 (upd (M'.2 10) es.length (nI cl.length))) W Ws := RLW_f (M' := sa M' 10 (upd (M'.2 10) es.length (nI cl.length))) hh a3 (fI_sa a4 (by decide)) a5
    obtain ⟨M5, m1, m2, m3, m4⟩ := m_deed hh3
    obtain ⟨S6, s1, s2, s3, s4⟩ := c_add hh3 (S := ci S' 1 0) rfl rfl
    have e11 : M5.1 11 = nI cl.length := by rw [m2.1 11 (by decide)]; exact b3
    have e9 : hM (M5.2 9) cl := by rw [m2.2 9 (by decide)]; exact b4
    have e10 : ∀ i, i ≤ es.length → M5.2 10 i = nI (bgn es i) := by
      intro i hi
      rw [m2.2 10 (by decide)]
      show upd (M'.2 10) es.length (nI cl.length) i = _
      by_cases z : i = es.length
      · subst z; rw [pk_us, b6]
      · rw [pk_un (by omega)]; exact b5 i (by omega)
    have e0 : M5.2 0 = M.2 0 := by rw [m2.2 0 (by decide)]; exact a4.2 0 (by decide)
    obtain ⟨M8, x1, x2, x3, x4⟩ := xn_beg (c1 := es.length) (M := sa M5 0 (upd (M5.2 0) 725 (nI es.length))) (kk0 := fun S41 => L_X12_needs_135 (fun S51 => some (nI es.length, S51)) FU S41 0) hes
    obtain ⟨M9, y1, y2, y3, y4⟩ := xn_copy (M := M8) (k := cl.length) (kk0 := fun S51 => some (nI es.length, S51)) (by rw [x2.1 11 (by simp)]; exact e11) hcl
    have hW6 : tW W S6 := tW_gI hh3.c s2 (by decide) (by decide)
    have epn : f_X4_parts_nf (fset S6 45 24 cl.length (S'.2.1 27) es.length (S'.2.1 29) (fun _ => 0) 0) = some (nI es.length) := rfl
    have g9 : ∀ i, i < 735 ∨ 735 + cl.length ≤ i → i < 726 ∨ 726 + es.length < i → M9.2 0 i = upd (M5.2 0) 725 (nI es.length) i := by
      intro i h1 h2
      rw [y4 i h1, x4 i h2]; rfl
    rw [a1, a2, bp_some, lt_eq]
    show ∃ (r : Int32) (T' : XS) (M' : MS), bp (bp (f_X3_add (ci S' 1 0)) _) _ = some (r, T') ∧ _ ∧ _
    rw [s1, bp_some, lt_eq, epn, bp_some, bp_some]
    refine ⟨nI es.length, (fset S6 45 24 cl.length (S'.2.1 27) es.length (S'.2.1 29) (fun _ => 0) 0, addd (1, -1, -1, 0, some (ofv S6 45 24)) T.2), M9, rfl, ?_, ?_⟩
    · show lt (si M' 5 0) _ = _
      rw [lt_eq, if_neg (by decide), chk_nI (by omega) (by decide), nI_clamp (by omega), lt_eq]
      rw [show (si M' 5 0).1 11 = nI cl.length from b3]
      rw [show (sa (si M' 5 0) 10 (upd ((si M' 5 0).2 10) es.length (nI cl.length))) = sa (si M' 5 0) 10 (upd (M'.2 10) es.length (nI cl.length)) from rfl, m1, bp_some, chk_of (i := 725) (k := 725) rfl (by decide) (by decide), lt_eq]
      exact x1.trans y1
    · refine RL_deed hh3 (W' := W.wN es cl) (WOK_N hh.w b7) (tW_N hW6 b1 b2) ?_ ?_ s3 ?_ (dOK_N hW6) ?_
      · refine tA_N hh.w hh.m (fun i hi => ?_) ?_ ?_ (fun i hi => ?_) (fun i hi => ?_)
        · rw [g9 i (by omega) (by omega), pk_un (by omega), e0]
        · rw [g9 725 (by omega) (by omega), pk_us]
        · rw [y4 726 (by omega)]
          have := x3 0 (by omega)
          rw [this]
          show M5.2 10 0 = _
          rw [e10 0 (by omega), bgn_0]; rfl
        · rw [y4 (727 + i) (by omega)]
          have := x3 (i + 1) (by omega)
          rw [show 727 + i = 726 + (i + 1) by omega, this]
          show M5.2 10 (i + 1) = _
          rw [e10 (i + 1) (by omega), bgn_s]
        · rw [y3 i hi, x2.2 9 (by decide)]
          exact e9 i hi
      · refine rOK_fr hh3.r ?_ ?_ ?_ ?_ ?_
        · intro k hk
          have a1 : k ≠ 24 := by revert k; decide
          have a2 : k ∉ [19, 20] := by revert k; decide
          show up S6.1 24 0 k = _
          rw [up_ne a1, s2.1 k a2]
        · intro k hk
          have a1 : k ≠ 46 ∧ k ≠ 47 ∧ k ≠ 48 := by revert k; decide
          show up (up (up S6.2.1 46 _) 47 _) 48 _ k = _
          rw [up_ne a1.2.2, up_ne a1.2.1, up_ne a1.1, s2.2.1 k (by simp)]
        · intro k hk
          have a1 : k ∉ [3] := by revert k; decide
          rw [y2.1 k (by simp), x2.1 k (by simp)]; exact m2.1 k a1
        · intro k hk
          have a1 : k ∉ [0] := by revert k; decide
          have a2 : k ∉ [1] := by revert k; decide
          have a3 : k ≠ 0 := by revert k; decide
          rw [y2.2 k a1, x2.2 k a1]
          show up M5.2 0 _ k = _
          rw [up_ne a3]; exact m2.2 k a2
        · obtain ⟨n', h1, h2⟩ := s4
          exact ⟨n', h1, h2⟩
      · rw [y2.1 3 (by simp), x2.1 3 (by simp)]; exact m3
      · rw [y2.2 1 (by decide), x2.2 1 (by decide)]; exact m4
