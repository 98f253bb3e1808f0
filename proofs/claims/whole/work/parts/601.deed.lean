theorem m_deed {T : XS} {M : MS} {W : WW} {Ws : List WW} (h : RLW T M W Ws) : ∃ M1, f_X12_deed M = some M1 ∧ fI [3] [1] M M1 ∧ M1.1 3 = nI (min (T.2.length + 1) 12) ∧ ∀ (j : Nat) (W1 : WW), ((W :: Ws).take 12)[j]? = some W1 → tA W1 (fun i => M1.2 1 (1177 * (((W :: Ws).take 12).length - 1 - j) + i)) := by
  have hdl := h.dl
  have h12 := h.d12
  have hlen : ((W :: Ws).take 12).length = min 12 (T.2.length + 1) := by rw [List.length_take, List.length_cons, hdl]
  have hWs : ∀ (j : Nat) (W1 : WW), Ws[j]? = some W1 → WOK W1 := by
    have : ∀ (ds : List DR) (W : WW) (Ws : List WW), dch ds W Ws → ∀ (j : Nat) (W1 : WW), Ws[j]? = some W1 → WOK W1 := by
      intro ds
      induction ds with
      | nil => intro W Ws hd j W1 hj; cases Ws with
        | nil => cases hj
        | cons a as => exact absurd hd (by unfold dch; exact id)
      | cons d ds ih => intro W Ws hd j W1 hj; cases Ws with
        | nil => exact absurd hd (by unfold dch; exact id)
        | cons a as =>
          cases j with
          | zero => rw [List.getElem?_cons_zero] at hj; cases hj; exact hd.2.1
          | succ j => rw [List.getElem?_cons_succ] at hj; exact ih a as hd.2.2 j W1 hj
    exact this _ _ _ h.dd
  unfold f_X12_deed
  simp only [jn1]
  rw [h.dm]
  by_cases c : T.2.length = 12
  · rw [if_pos (by rw [c]; rfl)]
    obtain ⟨Ma, a1, a2, a3⟩ := m_shift (M := M) (kk0 := fun S24 => lt (si S24 3 ((S24.1 3) - 1)) fun S25 => L_X12_deed_52 (fun S11 => lt (si S11 3 ((S11.1 3) + 1)) fun S12 => some S12) FU S25 0)
    rw [a1, lt_eq]
    have e11 : (si Ma 3 (Ma.1 3 - 1)).1 3 = nI 11 := by show Ma.1 3 - 1 = _; rw [a2.1 3 (by decide), h.dm, c, show (12 : Nat) = 11 + 1 from rfl, nI_pred]
    obtain ⟨Mb, b1, b2, b3, b4⟩ := m_copy (M := si Ma 3 (Ma.1 3 - 1)) (D := 11) (by decide) e11 (kk0 := fun S11 => lt (si S11 3 ((S11.1 3) + 1)) fun S12 => some S12)
    rw [b1, lt_eq]
    have hfr : fI [3] [1] M (si Mb 3 (Mb.1 3 + 1)) := fI_si (fI_tr (fI_si (fI_tr (ks := [3]) fI_rf a2 (by decide) (by decide)) (by decide)) b2 (by decide) (by decide)) (by decide)
    refine ⟨_, rfl, hfr, ?_, fun j W1 hj => ?_⟩
    · show Mb.1 3 + 1 = _
      rw [b2.1 3 (by decide), e11, nI_1, c]; rfl
    · have hj12 : j < 12 := by
        by_cases z : j < 12
        · exact z
        · rw [List.getElem?_take, if_neg z] at hj; cases hj
      rw [List.getElem?_take, if_pos hj12] at hj
      cases j with
      | zero =>
        rw [List.getElem?_cons_zero] at hj
        cases hj
        have e0 : ((W :: Ws).take 12).length - 1 - 0 = 11 := by rw [hlen]; omega
        rw [e0]
        refine tA_cg h.w h.m (fun i hi => ?_)
        have e1 := b3 i hi
        have e2 : Ma.2 0 i = M.2 0 i := by rw [a2.2 0 (by decide)]
        exact e1.trans e2
      | succ j =>
        rw [List.getElem?_cons_succ] at hj
        have hk := h.dk j W1 hj
        have hjl : j < Ws.length := by
          by_cases z : j < Ws.length
          · exact z
          · rw [List.getElem?_eq_none (by omega)] at hj; cases hj
        have e0 : ((W :: Ws).take 12).length - 1 - (j + 1) = 10 - j := by rw [hlen]; omega
        have e00 : Ws.length - 1 - j = 11 - j := by omega
        rw [e00] at hk
        rw [e0]
        refine tA_cg (hWs j W1 hj) hk (fun i hi => ?_)
        have e1 := b4 (1177 * (10 - j) + i) (by omega)
        have e2 := a3 (1177 * (10 - j) + i) (by omega)
        have e3 : 1177 * (10 - j) + i + 1177 = 1177 * (11 - j) + i := by omega
        rw [e3] at e2
        exact e1.trans e2
  · rw [if_neg (show ¬ nI T.2.length = 12 from fun hh => c ((nI_eq (by omega) (by omega)).mp (show nI T.2.length = nI 12 from hh)))]
    obtain ⟨Mb, b1, b2, b3, b4⟩ := m_copy (M := M) (D := T.2.length) (by omega) h.dm (kk0 := fun S11 => lt (si S11 3 ((S11.1 3) + 1)) fun S12 => some S12)
    rw [b1, lt_eq]
    refine ⟨_, rfl, fI_si (fI_tr (ks := [3]) fI_rf b2 (by decide) (by decide)) (by decide), ?_, fun j W1 hj => ?_⟩
    · show Mb.1 3 + 1 = _
      rw [b2.1 3 (by decide), h.dm, nI_1, show min (T.2.length + 1) 12 = T.2.length + 1 by omega]
    · have hj12 : j < 12 := by
        by_cases z : j < 12
        · exact z
        · rw [List.getElem?_take, if_neg z] at hj; cases hj
      rw [List.getElem?_take, if_pos hj12] at hj
      cases j with
      | zero =>
        rw [List.getElem?_cons_zero] at hj
        cases hj
        have e0 : ((W :: Ws).take 12).length - 1 - 0 = T.2.length := by rw [hlen]; omega
        rw [e0]
        exact tA_cg h.w h.m (fun i hi => b3 i hi)
      | succ j =>
        rw [List.getElem?_cons_succ] at hj
        have hk := h.dk j W1 hj
        have hjl : j < Ws.length := by
          by_cases z : j < Ws.length
          · exact z
          · rw [List.getElem?_eq_none (by omega)] at hj; cases hj
        have e0 : ((W :: Ws).take 12).length - 1 - (j + 1) = Ws.length - 1 - j := by rw [hlen]; omega
        rw [e0]
        refine tA_cg (hWs j W1 hj) hk (fun i hi => ?_)
        refine b4 _ ?_
        have q : 1177 * (Ws.length - 1 - j) + 1177 = 1177 * (Ws.length - 1 - j + 1) := by omega
        have q2 : 1177 * (Ws.length - 1 - j + 1) ≤ 1177 * T.2.length := Nat.mul_le_mul_left _ (by omega)
        omega
