/-! deeds: what is kept, and taken back -/
theorem tA_cg {W : WW} {A B : Nat → Int32} (hw : WOK W) (h : tA W A) (hc : ∀ i, i < 1177 → B i = A i) : tA W B := by
  have h6 := hw.V.ne
  have h8 := hw.V.np
  have h16 := hw.V.na
  have h60 := hw.V.n
  have hn := hw.n.n8
  have hnc := hw.n.c
  have hsc := hw.s.c
  have hR := h.R
  refine ⟨⟨by rw [hc _ (by omega)]; exact hR.ne, by rw [hc _ (by omega)]; exact hR.np, by rw [hc _ (by omega)]; exact hR.na, by rw [hc _ (by omega)]; exact hR.n, by rw [hc _ (by omega)]; exact hR.td, fun i hi => (by rw [hc _ (by omega)]; exact hR.e0 i hi), fun i hi => (by rw [hc _ (by omega)]; exact hR.e1 i hi), fun i hi => (by rw [hc _ (by omega)]; exact hR.p0 i hi), fun i hi => (by rw [hc _ (by omega)]; exact hR.p1 i hi), fun i hi => (by rw [hc _ (by omega)]; exact hR.a0 i hi), fun i hi => (by rw [hc _ (by omega)]; exact hR.a1 i hi), fun i hi => (by rw [hc _ (by omega)]; exact hR.ev i hi), fun i hi => (by rw [hc _ (by omega)]; exact hR.ath i hi), fun i hi => (by rw [hc _ (by omega)]; exact hR.pl i hi), fun i hi => (by rw [hc _ (by omega)]; exact hR.dy i hi), fun i hi => (by rw [hc _ (by omega)]; exact hR.mi i hi), fun i hi => (by rw [hc _ (by omega)]; exact hR.va i hi), fun i hi => (by rw [hc _ (by omega)]; exact hR.wi i hi), fun i hi => (by rw [hc _ (by omega)]; exact hR.sh i hi), fun i hi => (by rw [hc _ (by omega)]; exact hR.pa i hi), fun i hi => (by rw [hc _ (by omega)]; exact hR.ra i hi), fun i hi => (by rw [hc _ (by omega)]; exact hR.sk i hi)⟩, by rw [hc _ (by omega)]; exact h.nm, by rw [hc _ (by omega)]; exact h.n0, fun i hi => (by rw [hc _ (by omega)]; exact h.nb i hi), fun i hi => (by rw [hc _ (by omega)]; exact h.nc i hi), by rw [hc _ (by omega)]; exact h.st, by rw [hc _ (by omega)]; exact h.sd, fun i hi => (by rw [hc _ (by omega)]; exact h.sc i hi)⟩
theorem m_copy {M : MS} {D : Nat} (hD : D < 12) (h3 : M.1 3 = nI D) {kk0 : MS → Option MS} : ∃ M', L_X12_deed_52 kk0 FU M 0 = kk0 M' ∧ fI [] [1] M M' ∧ (∀ x, x < 1177 → M'.2 1 (1177 * D + x) = M.2 0 x) ∧ ∀ y, y < 1177 * D → M'.2 1 y = M.2 1 y := by
  unfold L_X12_deed_52
  refine lq2 (Q := fun o => ∃ M', o = kk0 M' ∧ fI [] [1] M M' ∧ (∀ x, x < 1177 → M'.2 1 (1177 * D + x) = M.2 0 x) ∧ ∀ y, y < 1177 * D → M'.2 1 y = M.2 1 y) 1177 (fun i M1 => fI [] [1] M M1 ∧ (∀ x, x < i → M1.2 1 (1177 * D + x) = M.2 0 x) ∧ ∀ y, y < 1177 * D → M1.2 1 y = M.2 1 y) ?_ 0 rfl (Nat.zero_le _) (FU_gt (by omega)) ⟨fI_rf, fun x hx => (by omega), fun _ _ => rfl⟩
  rintro i M1 kk hi ⟨hg, h1, h2⟩ hr
  by_cases c : i < 1177
  · have e : (1177 : Int32) * M1.1 3 + nI i = nI (1177 * D + i) := by rw [hg.1 3 (by decide), h3, show (1177 : Int32) = nI 1177 from rfl, pk_mul, nI_add]
    rw [if_neg (fun h => by rw [show (1177 : Int32) = nI 1177 from rfl, nI_leI (by omega) (by omega)] at h; omega), chk_nI c (by decide), e, chk_nI (by omega) (by decide), nI_clamp (by omega), nI_clamp (by omega), lt_eq, lt_eq, nI_1]
    refine hr _ c ⟨fI_sa hg (by decide), fun x hx => ?_, fun y hy => ?_⟩
    · show upd (M1.2 1) (1177 * D + i) (M1.2 0 i) (1177 * D + x) = _
      by_cases z : x = i
      · subst z; rw [pk_us, hg.2 0 (by decide)]
      · rw [pk_un (by omega)]; exact h1 x (by omega)
    · show upd (M1.2 1) (1177 * D + i) (M1.2 0 i) y = _
      rw [pk_un (by omega)]; exact h2 y hy
  · have : i = 1177 := by omega
    subst this
    rw [if_pos (by decide)]
    exact ⟨M1, rfl, hg, h1, h2⟩
theorem m_shift {M : MS} {kk0 : MS → Option MS} : ∃ M', L_X12_deed_11 kk0 FU M 0 = kk0 M' ∧ fI [] [1] M M' ∧ ∀ x, x < 12947 → M'.2 1 x = M.2 1 (x + 1177) := by
  unfold L_X12_deed_11
  refine lq2 (Q := fun o => ∃ M', o = kk0 M' ∧ fI [] [1] M M' ∧ ∀ x, x < 12947 → M'.2 1 x = M.2 1 (x + 1177)) 12947 (fun i M1 => fI [] [1] M M1 ∧ (∀ x, x < i → M1.2 1 x = M.2 1 (x + 1177)) ∧ ∀ x, i ≤ x → M1.2 1 x = M.2 1 x) ?_ 0 rfl (Nat.zero_le _) (FU_gt (by omega)) ⟨fI_rf, fun x hx => (by omega), fun _ _ => rfl⟩
  rintro i M1 kk hi ⟨hg, h1, h2⟩ hr
  by_cases c : i < 12947
  · have e : nI i + (1177 : Int32) = nI (i + 1177) := by rw [show (1177 : Int32) = nI 1177 from rfl, nI_add]
    rw [if_neg (fun h => by rw [show (12947 : Int32) = nI 12947 from rfl, nI_leI (by omega) (by omega)] at h; omega), e, chk_nI (by omega) (by decide), chk_nI (by omega) (by decide), nI_clamp (by omega), nI_clamp (by omega), lt_eq, lt_eq, nI_1]
    refine hr _ c ⟨fI_sa hg (by decide), fun x hx => ?_, fun x hx => ?_⟩
    · show upd (M1.2 1) i (M1.2 1 (i + 1177)) x = _
      by_cases z : x = i
      · subst z; rw [pk_us]; exact h2 _ (by omega)
      · rw [pk_un z]; exact h1 x (by omega)
    · show upd (M1.2 1) i (M1.2 1 (i + 1177)) x = _
      rw [pk_un (by omega)]; exact h2 x (by omega)
  · have : i = 12947 := by omega
    subst this
    rw [if_pos (by decide)]
    exact ⟨M1, rfl, hg, h1⟩
