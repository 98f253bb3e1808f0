/-! a mark finds its place in the order -/
theorem c_ins {V' : VW} {S : CS} {L : List Nat} {n : Nat} {K : CS → Int32 → Option CS} (hV : VOK V') (hn : V'.n = n + 1) (hT : tC V' (ci S 6 (nI (n + 1)))) (hLn : L.length = n) (hLb : ∀ y, y ∈ L → y < n) (ho : hold (S.2.1 24) L) (h6 : S.1 6 = nI n) (h60 : n < 60) : ∃ i S1, i ≤ n ∧ L_X1_settleMark_25 K FU S (nI n) = K S1 (nI i) ∧ gI [] [24] S S1 ∧ (∀ j, j < i → S1.2.1 24 j = nI (L.getD j 0)) ∧ (∀ j, i < j → j ≤ n → S1.2.1 24 j = nI (L.getD (j - 1) 0)) ∧ (∀ j, i ≤ j → j < n → vAhead V' n (L.getD j 0) = true) ∧ (0 < i → vAhead V' n (L.getD (i - 1) 0) = false) := by
  unfold L_X1_settleMark_25
  refine lqd2 (Q := fun o => ∃ i S1, i ≤ n ∧ o = K S1 (nI i) ∧ gI [] [24] S S1 ∧ (∀ j, j < i → S1.2.1 24 j = nI (L.getD j 0)) ∧ (∀ j, i < j → j ≤ n → S1.2.1 24 j = nI (L.getD (j - 1) 0)) ∧ (∀ j, i ≤ j → j < n → vAhead V' n (L.getD j 0) = true) ∧ (0 < i → vAhead V' n (L.getD (i - 1) 0) = false)) (fun i S1 => i ≤ n ∧ gI [] [24] S S1 ∧ (∀ j, j < i → S1.2.1 24 j = nI (L.getD j 0)) ∧ (∀ j, i < j → j ≤ n → S1.2.1 24 j = nI (L.getD (j - 1) 0)) ∧ (∀ j, i ≤ j → j < n → vAhead V' n (L.getD j 0) = true)) ?_ n rfl (FU_gt (by omega)) ⟨Nat.le_refl _, gI_rf, fun j hj => ho j (by omega), fun j h1 h2 => (by omega), fun j h1 h2 => (by omega)⟩
  rintro i S1 kk ⟨hi, hg, h1, h2, h3⟩ hr
  by_cases c : i = 0
  · subst c
    rw [if_pos (show nI 0 ≤ 0 by decide)]
    exact ⟨0, S1, hi, rfl, hg, h1, h2, h3, fun z => absurd z (Nat.lt_irrefl _)⟩
  · have e6 : S1.1 6 = nI n := by rw [hg.1 6 (by decide)]; exact h6
    have hs : nI i - 1 = nI (i - 1) := pk_sub (b := 1) (by omega)
    have em : nI i + (-1) = nI (i - 1) := by rw [← hs, Int32.sub_eq_add_neg]
    have g6 : gI [] [24] (ci S 6 (nI (n + 1))) (ci S1 6 (nI (n + 1))) := ⟨fun k hk => by
      show up S1.1 6 _ k = up S.1 6 _ k
      by_cases z : k = 6
      · subst z; rw [up_eq, up_eq]
      · rw [up_ne z, up_ne z]; exact hg.1 k hk, hg.2.1, hg.2.2⟩
    have hT1 : tC V' (ci S1 6 (nI (n + 1))) := tC_gI hT g6 (by decide) (by decide)
    have hy := hLb _ (getD_mem (show i - 1 < L.length by omega))
    have ca : f_X1_isAhead S1 (nI n) (nI (L.getD (i - 1) 0)) = some (vAhead V' n (L.getD (i - 1) 0)) := c_ahead hV hT1 (by omega) (by omega)
    rw [if_neg (fun z => by rw [show (0 : Int32) = nI 0 from rfl, nI_leI (by omega) (by omega)] at z; omega), hs, chk_nI (by omega) (by decide), nI_clamp (by omega), h1 (i - 1) (by omega), e6, ca, bp_some]
    cases hv : vAhead V' n (L.getD (i - 1) 0) with
    | true =>
      rw [if_pos rfl, chk_nI (by omega) (by decide), chk_nI (by omega) (by decide), lt_eq, lt_eq, em, nI_clamp (by omega)]
      refine hr _ (by omega) ⟨by omega, gI_ca hg (by decide), fun j hj => ?_, fun j ha hb => ?_, fun j ha hb => ?_⟩
      · show upd (S1.2.1 24) i (nI (L.getD (i - 1) 0)) j = _
        rw [pk_un (by omega)]; exact h1 j (by omega)
      · show upd (S1.2.1 24) i (nI (L.getD (i - 1) 0)) j = _
        by_cases z : j = i
        · subst z; rw [pk_us]
        · rw [pk_un z]; exact h2 j (by omega) hb
      · by_cases z : j = i - 1
        · rw [z]; exact hv
        · exact h3 j (by omega) hb
    | false =>
      rw [if_neg (by decide)]
      exact ⟨i, S1, hi, rfl, hg, h1, h2, h3, fun _ => hv⟩
/-- the row with the new mark in its place -/
theorem hold_insN {f : Nat → Int32} {L : List Nat} {n i : Nat} (hLn : L.length = n) (hi : i ≤ n) (h1 : ∀ j, j < i → f j = nI (L.getD j 0)) (h2 : ∀ j, i < j → j ≤ n → f j = nI (L.getD (j - 1) 0)) : hold (upd f i (nI n)) (L.take i ++ n :: L.drop i) := by
  intro j hj
  have ht : (L.take i).length = i := by rw [List.length_take]; omega
  have hl : j < n + 1 := by
    rw [List.length_append, ht, List.length_cons, List.length_drop] at hj; omega
  by_cases z : j < i
  · rw [pk_un (by omega), getD_app_l (by omega), h1 j z, List.getD_eq_getElem?_getD, List.getD_eq_getElem?_getD, List.getElem?_take_of_lt z]
  · rw [List.getD_eq_getElem?_getD, List.getElem?_append_right (by omega), ht]
    by_cases z2 : j = i
    · subst z2; rw [pk_us, Nat.sub_self]; rfl
    · rw [pk_un z2, h2 j (by omega) (by omega), show j - i = (j - i - 1) + 1 by omega, List.getElem?_cons_succ, List.getElem?_drop, show i + (j - i - 1) = j - 1 by omega, List.getD_eq_getElem?_getD]
