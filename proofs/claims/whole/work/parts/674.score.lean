/-! score -/
theorem xs_copy {M : MS} {k : Nat} {kk0 : MS → Option (Int32 × MS)} (h11 : M.1 11 = nI k) (hk : k ≤ 130) : ∃ M', L_X12_score_87 kk0 FU M 0 = kk0 M' ∧ fI [] [0] M M' ∧ (∀ x, x < k → M'.2 0 (1047 + x) = M.2 9 x) ∧ ∀ x, x < 1047 ∨ 1047 + k ≤ x → M'.2 0 x = M.2 0 x := by
  unfold L_X12_score_87
  refine lq2 (Q := fun o => ∃ M', o = kk0 M' ∧ fI [] [0] M M' ∧ (∀ x, x < k → M'.2 0 (1047 + x) = M.2 9 x) ∧ ∀ x, x < 1047 ∨ 1047 + k ≤ x → M'.2 0 x = M.2 0 x) k (fun i M1 => fI [] [0] M M1 ∧ (∀ x, x < i → M1.2 0 (1047 + x) = M.2 9 x) ∧ ∀ x, x < 1047 ∨ 1047 + k ≤ x → M1.2 0 x = M.2 0 x) ?_ 0 rfl (Nat.zero_le _) (FU_gt (by omega)) ⟨fI_rf, fun x hx => (by omega), fun _ _ => rfl⟩
  rintro i M1 kk hi ⟨hg, h1, h2⟩ hr
  have e11 : M1.1 11 = nI k := by rw [hg.1 11 (by simp)]; exact h11
  by_cases c : i < k
  · have e : (1047 : Int32) + nI i = nI (1047 + i) := by rw [show (1047 : Int32) = nI 1047 from rfl, nI_add]
    rw [e11, if_neg (fun h => by rw [nI_leI (by omega) (by omega)] at h; omega), chk_nI (by omega) (by decide), e, chk_nI (by omega) (by decide), nI_clamp (by omega), nI_clamp (by omega), lt_eq, lt_eq, nI_1]
    refine hr _ c ⟨fI_sa hg (by decide), fun x hx => ?_, fun x hx => ?_⟩
    · show upd (M1.2 0) (1047 + i) (M1.2 9 i) (1047 + x) = _
      by_cases z : x = i
      · subst z; rw [pk_us, hg.2 9 (by decide)]
      · rw [pk_un (by omega)]; exact h1 x (by omega)
    · show upd (M1.2 0) (1047 + i) (M1.2 9 i) x = _
      rw [pk_un (by omega)]; exact h2 x hx
  · have : i = k := by omega
    subst this
    rw [e11, if_pos ((nI_leI (by omega) (by omega)).mpr (Nat.le_refl _))]
    exact ⟨M1, rfl, hg, h1, h2⟩
theorem tA_S {W : WW} {A B : Nat → Int32} {es : List Nat} {cs : List Int32} {st : Nat} (hw : WOK W) (h : tA W A) (hc : ∀ i, i < 1045 → B i = A i) (h1 : B 1045 = nI st) (h2 : B 1046 = nI cs.length) (h3 : ∀ i, i < cs.length → B (1047 + i) = mcode (cs.getD i 0)) : tA (W.wS es cs st) B := by
  have hn := hw.n.n8
  have hnc := hw.n.c
  exact ⟨(show tR W.V B from tR_cg hw h.R (fun i hi => hc i (by omega))), (show B 725 = nI W.ne.length by rw [hc _ (by omega)]; exact h.nm), (show B 726 = 0 by rw [hc _ (by omega)]; exact h.n0), (show ∀ i, i < W.ne.length → B (727 + i) = nI (W.ne.getD i 0) from fun i hi => by rw [hc _ (by omega)]; exact h.nb i hi), (show ∀ i, i < W.nc.length → B (735 + i) = mcode (W.nc.getD i 0) from fun i hi => by rw [hc _ (by omega)]; exact h.nc i hi), h1, h2, h3⟩
theorem WOK_S {W : WW} {es : List Nat} {cs : List Int32} {st : Nat} (hw : WOK W) (h : sOK es cs st) : WOK (W.wS es cs st) := ⟨hw.V, hw.so, hw.me, hw.le, hw.n, h, hw.dy⟩
theorem tW_S {W : WW} {S : CS} {es : List Nat} {cs : List Int32} {st : Nat} {code ends sk : Nat → Int32} {x : Int32} (h : tW W S) (hc : hC code cs) (he : ∀ i, i < es.length → ends i = nI (es.getD i 0)) : tW (W.wS es cs st) (fset S 49 25 cs.length code es.length ends sk x) := ⟨h.V, h.o, h.nl, h.ne, h.ncl, h.nc, rfl, he, rfl, hc⟩
theorem gU_fs {S : CS} {k hs lc le : Nat} {code ends sk : Nat → Int32} {x : Int32} (hk : k = 45 ∨ k = 49) (hh : hs = 24 ∨ hs = 25) : gU S (fset S k hs lc code le ends sk x) := by
  refine ⟨fun j hj => up_ne (fun z => hj ?_), fun j hj => (up_ne (fun z => hj ?_)).trans ((up_ne (fun z => hj ?_)).trans (up_ne (fun z => hj ?_)))⟩
  · subst z; rcases hh with rfl | rfl <;> decide
  · subst z; rcases hk with rfl | rfl <;> decide
  · subst z; rcases hk with rfl | rfl <;> decide
  · subst z; rcases hk with rfl | rfl <;> decide
theorem dOK_S {W : WW} {S6 : CS} {es : List Nat} {cs : List Int32} {st : Nat} (h6 : tW W S6) : dOK (2, -1, -1, 0, some (ofv S6 49 25)) (W.wS es cs st) W := by
  intro S hS
  refine ⟨fset S 49 25 (S6.2.2 50) (S6.2.1 50) (S6.2.2 51) (S6.2.1 51) (S6.2.1 52) (S6.1 25), ?_, ?_, gU_fs (Or.inr rfl) (Or.inr rfl)⟩
  · unfold f_X11_undo
    dsimp only
    rw [if_neg (by decide), if_pos rfl]; rfl
  · exact ⟨hS.V, hS.o, hS.nl, hS.ne, hS.ncl, hS.nc, h6.sl, h6.se, h6.scl, h6.sc⟩
def Sbeg (S : CS) (x : Int32) : CS := ci (ci (ci (ci (ci (ci (ci S 10 0) 11 0) 12 0) 13 0) 14 0) 16 0) 15 x
theorem c_begin {S : CS} {x : Int32} : f_X5_begin S x = some (Sbeg S x) := rfl
def Mbeg (M : MS) : MS := si (si (si (si M 6 0) 7 (-1)) 11 0) 12 0
theorem m_begin {M : MS} : f_X12_beginCode M = some (Mbeg M) := rfl
def Ksm : MS → Int32 → Option (Int32 × MS) := fun S2 x3 => lt (si S2 5 0) fun S4 => (if x3 = 0 then some ((-1), S4) else bp (f_X12_deed S4) (fun S5 => chk 1045 1177 (lt (sa S5 0 (upd (S5.2 0) (1045 : Int32).toNatClampNeg (S5.1 12))) fun S6 => chk 1046 1177 (lt (sa S6 0 (upd (S6.2 0) (1046 : Int32).toNatClampNeg (S6.1 11))) fun S7 => L_X12_score_87 (fun S17 => some (S17.1 12, S17)) FU S7 0))))
theorem m_score_e {M : MS} : f_X12_score M = if M.1 5 = 0 then Ksm (Mbeg M) 1 else bw (f_X12_readSum (Mbeg M)) (fun x20 S21 => Kfull Ksm S21 x20) := by
  unfold f_X12_score
  rw [m_begin, bp_some]
  show (if (Mbeg M).1 5 = 0 then Ksm (Mbeg M) 1 else bw (f_X12_readSum (Mbeg M)) (fun x20 S21 => jn1 (fun S22 => Ksm S22 0) (fun k23 => if x20 = true then (if S21.1 6 = S21.1 5 then Ksm S21 1 else bw (f_X12_fails S21 (S21.1 6)) (fun x25 S26 => if x25 = true then Ksm S26 1 else k23 S26)) else k23 S21))) = _
  have e5 : (Mbeg M).1 5 = M.1 5 := rfl
  rw [e5]
  by_cases c : M.1 5 = 0
  · rw [if_pos c, if_pos c]
  · rw [if_neg c, if_neg c]
    refine congrArg (bw (f_X12_readSum (Mbeg M))) (funext fun x20 => funext fun S21 => ?_)
    unfold Kfull jn1 f_X12_fails
    dsimp only
    rw [lt_eq, bw_some, if_neg (show ¬ false = true by decide)]
theorem sc_all {bb : Nat → Nat} {n : Nat} {S : CS} {M : MS} (ho : bbO bb n) (h : rdS bb n 0 S) (hm : rdM bb n 0 (Mbeg M)) (hf : S.1 5 = -1) : scQ S M Ksm (f_X5_readScore S) (f_X12_score M) := by
  have hn := ho.n
  have gB : ∀ x, fC S (Sbeg S x) := fun x => gI_ci (gI_ci (gI_ci (gI_ci (gI_ci (gI_ci (gI_ci gI_rf (by decide)) (by decide)) (by decide)) (by decide)) (by decide)) (by decide)) (by decide)
  have gM : fN M (Mbeg M) := fI_si (fI_si (fI_si (fI_si fI_rf (by decide)) (by decide)) (by decide)) (by decide)
  have hl5 : M.1 5 = nI n := hm.l
  rw [m_score_e, hl5]
  unfold f_X5_readScore f_X10_isOver
  rw [h.l, h.p, c_begin, c_begin, bp_some, bp_some]
  by_cases c : 0 < n
  · rw [if_pos ((nI_ltI (by omega) (by omega)).mpr c), bp_some, if_neg (by decide), if_neg (nI_ne0 c (by omega))]
    rcases sc_core (S := Sbeg S 1) (M := Mbeg M) Ksm ho ⟨h.l, h.p, h.b⟩ hm rfl rfl rfl rfl rfl rfl rfl rfl (by show S.1 5 = -1; exact hf) with ⟨S', M', a1, a2, a3, a4, a5⟩ | ⟨S', M', cl, es, T, a1, a2, a3, a4, a5⟩
    · exact Or.inl ⟨S', M', a1, a2, gI_tr (gB 1) a3 (fun _ z => z) (fun _ z => z), fI_tr gM a4 (fun _ z => z) (fun _ z => z), a5⟩
    · exact Or.inr ⟨S', M', cl, es, T, a1, a2, gI_tr (gB 1) a3 (fun _ z => z) (fun _ z => z), fI_tr gM a4 (fun _ z => z) (fun _ z => z), a5⟩
  · have n0 : n = 0 := by omega
    subst n0
    rw [if_neg (by decide), bp_some, if_pos rfl, if_pos (show nI 0 = 0 from rfl)]
    unfold f_X5_finished
    rw [show (Sbeg S 4).1 15 = 4 from rfl, if_pos rfl, show (Sbeg S 4).1 10 = nI 0 from rfl, show (Sbeg S 4).1 12 = nI 0 from rfl, chk_nI (by decide) (by decide), chk_nI (by decide) (by decide), bp_some]
    exact Or.inr ⟨Sbeg S 4, Mbeg M, [], [], 0, rfl, rfl, gB 4, gM, hf, fun i hi => absurd hi (Nat.not_lt_zero _), fun i hi => absurd hi (Nat.not_lt_zero _), rfl, fun i hi => absurd hi (Nat.not_lt_zero _), rfl, rfl, by decide, by decide, Or.inl ⟨rfl, rfl, rfl⟩⟩
theorem RLW_f {T : XS} {M : MS} {W : WW} {Ws : List WW} {S' : CS} {M' : MS} (h : RLW T M W Ws) (hS : fC (ci (ci T.1 2 0) 5 (-1)) S') (hM : fN M M') (hf : S'.1 5 = M'.1 7) : RLW (ci S' 1 0, T.2) (si M' 5 0) W Ws := by
  have g1 : gI [1, 2, 3, 5, 10, 11, 12, 13, 14, 15, 16] [27, 28, 29] T.1 (ci S' 1 0) := gI_ci (gI_tr (gI_ci (gI_ci gI_rf (by decide)) (by decide)) hS (by decide) (by decide)) (by decide)
  have g2 : fI [5, 6, 7, 8, 11, 12, 16] [0, 2, 9, 10, 13, 14, 15] M (si M' 5 0) := fI_si (fI_tr fI_rf hM (by decide) (by decide)) (by decide)
  refine RLW_x (ka := [27, 28, 29]) h (tW_gI h.c g1 (by decide) (by decide)) ?_ (gI_tr gI_rf g1 (by decide) (by decide)) (by decide) (by decide) g2 rfl rfl hf
  show tA W (M'.2 0)
  rw [hM.2 0 (by decide)]; exact h.m
theorem q_score (T : XS) (M : MS) (h : RLL T M) : ∃ (r : Int32) (T' : XS) (M' : MS), fo_score T = some (r, T') ∧ fm_score M = some (r, M') ∧ RLL T' M' := by
  obtain ⟨W, Ws, hh⟩ := id h
  obtain ⟨n, ht⟩ := hh.r.tl
  obtain ⟨bb, ho, hbS, hbM⟩ := tape_bb (S := T.1) (M := M) (n := n) ht
  have hn := ho.n
  have hS1 : rdS bb n 0 (ci (ci T.1 2 0) 5 (-1)) := ⟨ht.2.1, rfl, hbS⟩
  have hM1 : rdM bb n 0 (Mbeg M) := ⟨ht.2.2.1, rfl, hbM⟩
  have hQ := sc_all ho hS1 hM1 rfl
  unfold fo_score fm_score f_X11_score f_X10_beginReading
  rw [lt_eq, lt_eq, bp_some]
  rcases hQ with ⟨S', M', a1, a2, a3, a4, a5⟩ | ⟨S', M', cl, es, Tn, a1, a2, a3, a4, a5, b1, b2, b3, b4, b5, b6, b7⟩
  · rw [a1, a2, bp_some, lt_eq]
    refine ⟨-1, (ci S' 1 0, T.2), si M' 5 0, rfl, ?_, W, Ws, RLW_f hh a3 a4 a5⟩
    show lt (si M' 5 0) _ = _
    rw [lt_eq, if_pos rfl]
  · have hh3 := RLW_f hh a3 a4 a5
    have hcl := b7.c
    obtain ⟨M5, m1, m2, m3, m4⟩ := m_deed hh3
    obtain ⟨S6, s1, s2, s3, s4⟩ := c_add hh3 (S := ci S' 1 0) rfl rfl
    have e12 : M5.1 12 = nI Tn := by rw [m2.1 12 (by decide)]; exact b5
    have e11 : M5.1 11 = nI cl.length := by rw [m2.1 11 (by decide)]; exact b3
    have e9 : hM (M5.2 9) cl := by rw [m2.2 9 (by decide)]; exact b4
    have e0 : M5.2 0 = M.2 0 := by rw [m2.2 0 (by decide)]; exact a4.2 0 (by decide)
    obtain ⟨M8, x1, x2, x3, x4⟩ := xs_copy (M := sa (sa M5 0 (upd (M5.2 0) 1045 (nI Tn))) 0 (upd (upd (M5.2 0) 1045 (nI Tn)) 1046 (nI cl.length))) (k := cl.length) (kk0 := fun S17 => some (S17.1 12, S17)) e11 hcl
    have hW6 : tW W S6 := tW_gI hh3.c s2 (by decide) (by decide)
    have e8 : M8.1 12 = nI Tn := by rw [x2.1 12 (by simp)]; exact e12
    have e13 : S6.1 13 = nI Tn := by rw [s2.1 13 (by decide)]; exact b6
    rw [a1, a2, bp_some, lt_eq]
    show ∃ (r : Int32) (T' : XS) (M' : MS), bp (bp (f_X3_add (ci S' 1 0)) _) _ = some (r, T') ∧ _ ∧ _
    rw [s1, bp_some, lt_eq, bp_some]
    refine ⟨nI Tn, (fset S6 49 25 cl.length (S'.2.1 27) es.length (S'.2.1 29) (fun _ => 0) 0, addd (2, -1, -1, 0, some (ofv S6 49 25)) T.2), M8, ?_, ?_, ?_⟩
    · show some (S6.1 13, _) = _
      rw [e13]; rfl
    · show lt (si M' 5 0) _ = _
      rw [lt_eq, if_neg (by decide), m1, bp_some, chk_of (i := 1045) (k := 1045) rfl (by decide) (by decide), lt_eq, chk_of (i := 1046) (k := 1046) rfl (by decide) (by decide), lt_eq, e12]
      rw [show (sa M5 0 (upd (M5.2 0) (1045 : Int32).toNatClampNeg (nI Tn))).1 11 = nI cl.length from e11]
      have x1 : L_X12_score_87 (fun S17 => some (S17.1 12, S17)) FU (sa (sa M5 0 (upd (M5.2 0) (1045 : Int32).toNatClampNeg (nI Tn))) 0 (upd ((sa M5 0 (upd (M5.2 0) (1045 : Int32).toNatClampNeg (nI Tn))).2 0) (1046 : Int32).toNatClampNeg (nI cl.length))) 0 = some (M8.1 12, M8) := x1
      rw [x1, e8]
    · refine RL_deed hh3 (W' := W.wS es cl Tn) (WOK_S hh.w b7) (tW_S hW6 b1 b2) ?_ ?_ s3 ?_ (dOK_S hW6) ?_
      · refine tA_S hh.w hh.m (fun i hi => ?_) ?_ ?_ (fun i hi => ?_)
        · rw [x4 i (Or.inl (by omega))]
          show upd (upd (M5.2 0) 1045 (nI Tn)) 1046 (nI cl.length) i = _
          rw [pk_un (by omega), pk_un (by omega), e0]
        · rw [x4 1045 (Or.inl (by omega))]
          show upd (upd (M5.2 0) 1045 (nI Tn)) 1046 (nI cl.length) 1045 = _
          rw [pk_un (by omega), pk_us]
        · rw [x4 1046 (Or.inl (by omega))]
          show upd (upd (M5.2 0) 1045 (nI Tn)) 1046 (nI cl.length) 1046 = _
          rw [pk_us]
        · rw [x3 i hi]
          exact e9 i hi
      · refine rOK_fr hh3.r ?_ ?_ ?_ ?_ ?_
        · intro k hk
          have a1 : k ≠ 25 := by revert k; decide
          have a2 : k ∉ [19, 20] := by revert k; decide
          show up S6.1 25 0 k = _
          rw [up_ne a1, s2.1 k a2]
        · intro k hk
          have a1 : k ≠ 50 ∧ k ≠ 51 ∧ k ≠ 52 := by revert k; decide
          show up (up (up S6.2.1 50 _) 51 _) 52 _ k = _
          rw [up_ne a1.2.2, up_ne a1.2.1, up_ne a1.1, s2.2.1 k (by simp)]
        · intro k hk
          have a1 : k ∉ [3] := by revert k; decide
          rw [x2.1 k (by simp)]; exact m2.1 k a1
        · intro k hk
          have a1 : k ∉ [0] := by revert k; decide
          have a2 : k ∉ [1] := by revert k; decide
          have a3 : k ≠ 0 := by revert k; decide
          rw [x2.2 k a1]
          show up (up M5.2 0 _) 0 _ k = _
          rw [up_ne a3, up_ne a3]; exact m2.2 k a2
        · obtain ⟨n', h1, h2⟩ := s4
          exact ⟨n', h1, h2⟩
      · rw [x2.1 3 (by simp)]; exact m3
      · rw [x2.2 1 (by decide)]; exact m4
