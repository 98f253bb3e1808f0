/-! a thing of a formula is read -/
def thG (bb : Nat → Nat) (n p : Nat) (S : CS) (M : MS) (cl : List Int32) (T : Nat) (c : Int32) (p' : Nat) (S' : CS) (M' : MS) : Prop := T < 60 ∧ p < p' ∧ p' ≤ n ∧ rdS bb n p' S' ∧ rdM bb n p' M' ∧ thC c ∧ gI [2, 3, 5, 10, 13, 15] [27] S S' ∧ fI [6, 7, 8, 11, 12] [9] M M' ∧ S'.1 10 = nI (cl.length + 1) ∧ hC (S'.2.1 27) (cl ++ [c]) ∧ M'.1 11 = nI (cl.length + 1) ∧ hM (M'.2 9) (cl ++ [c]) ∧ S'.1 13 = nI (T + 1) ∧ M'.1 12 = nI (T + 1) ∧ S'.1 15 = 2 ∧ S'.1 5 = S.1 5 ∧ M'.1 7 = M.1 7
def thB (S : CS) (M : MS) (S' : CS) (M' : MS) : Prop := ∃ q, S'.1 2 = nI q ∧ M'.1 7 = nI q ∧ gI [2, 3, 5] [] S S' ∧ fI [6, 7, 8, 12] [] M M'
theorem f_thing {bb : Nat → Nat} {n p : Nat} {S : CS} {M : MS} {cl : List Int32} {T : Nat} (ho : bbO bb n) (h : rdS bb n p S) (hm : rdM bb n p M) (hp : p ≤ n) (e10 : S.1 10 = nI cl.length) (hc : hC (S.2.1 27) cl) (e11 : M.1 11 = nI cl.length) (hmc : hM (M.2 9) cl) (hcl : cl.length < 310) (eT : S.1 13 = nI T) (mT : M.1 12 = nI T) (hT : T ≤ 60) : (∃ c p' S' M', f_X5_readThing S = some (true, S') ∧ f_X12_readThing M = some (true, M') ∧ thG bb n p S M cl T c p' S' M') ∨ (∃ S' M', f_X5_readThing S = some (false, S') ∧ f_X12_readThing M = some (false, M') ∧ thB S M S' M') := by
  obtain ⟨nmx, hnm⟩ := nm_tot (sg bb n p)
  have e60 : nI T = 60 ↔ T = 60 := nI_eq (b := 60) (by omega) (by omega)
  have bad : thB S M S (si M 7 (M.1 6)) := ⟨p, h.p, hm.p, gI_rf, fI_si fI_rf (by decide)⟩
  unfold f_X5_readThing f_X12_readThing f_X12_fails
  rw [eT, m_here ho hm hp, bp_some, m_fig ho, bp_some]
  simp only [jn0, jn1]
  rw [lt_eq, bw_some, mT, hnm]
  simp only [bp_some]
  by_cases z60 : T = 60
  · rw [if_pos (e60.mpr z60), if_pos (e60.mpr z60)]
    refine Or.inr ⟨S, si M 7 (M.1 6), rfl, ?_, bad⟩
    by_cases d : isD bb n p = true
    · rw [if_pos d]
    · rw [if_neg d]
      by_cases d2 : nmx = -1
      · rw [if_pos d2]
      · rw [if_neg d2]
  · rw [if_neg (fun q => z60 (e60.mp q)), if_neg (fun q => z60 (e60.mp q)), c_peek ho h hp, bp_some, c_dig ho h hp, bp_some, lt_eq, nI_1]
    by_cases d : isD bb n p = true
    · rw [if_pos d, if_pos d, if_pos d]
      have hm1 : rdM bb n p (si M 12 (nI (T + 1))) := ⟨hm.l, hm.p, hm.b⟩
      obtain ⟨S1, a1, a2, a3, a4, a5⟩ := c_digits ho h hp
      obtain ⟨M1, b1, b2, b3, b4, b5⟩ := m_digits ho hm1 hp
      have hd7 := dg7 (bb := bb) hp
      rw [a1, b1, bw_some, bw_some]
      cases hO : dgO bb n p with
      | false =>
        rw [hO] at b5
        rw [if_neg (by decide), if_neg (by decide)]
        exact Or.inr ⟨S1, M1, rfl, rfl, _, a3.p, b5, a2, fI_tr (fI_si fI_rf (by decide)) b2 (by decide) (by decide)⟩
      | true =>
        rw [hO] at a4 a5 b4 b5
        have hlt := (of_decide_eq_true hO).1
        have k10 : S1.1 10 = nI cl.length := by rw [a2.1 10 (by decide)]; exact e10
        have k27 : hC (S1.2.1 27) cl := by rw [a2.2.1 27 (by simp)]; exact hc
        have k11 : M1.1 11 = nI cl.length := by rw [b2.1 11 (by decide)]; exact e11
        have k9 : hM (M1.2 9) cl := by rw [b2.2 9 (by simp)]; exact hmc
        have k13 : S1.1 13 = nI T := by rw [a2.1 13 (by decide)]; exact eT
        have k12 : M1.1 12 = nI (T + 1) := b2.1 12 (by decide)
        rw [if_pos rfl, if_pos rfl, a4 rfl, b4 rfl, c_emit k10 (by omega), m_does k11 hcl, bp_some, bp_some, lt_eq, lt_eq]
        have hv : (nI (dgR bb n 7 p 0).2).toInt = ((dgR bb n 7 p 0).2 : Int) := nI_toInt (by omega)
        have hth : thC (nI (dgR bb n 7 p 0).2) := Or.inl ⟨by rw [hv]; omega, by rw [hv]; omega⟩
        have hmcd : nI (dgR bb n 7 p 0).2 = mcode (nI (dgR bb n 7 p 0).2) := by unfold mcode; rw [if_pos (by rw [hv]; omega)]
        refine Or.inl ⟨nI (dgR bb n 7 p 0).2, (dgR bb n 7 p 0).1, _, _, rfl, rfl, by omega, hlt, hd7.2.1, ⟨a3.l, a3.p, a3.b⟩, ⟨b3.l, b3.p, b3.b⟩, hth, ?_, ?_, rfl, hC_push k27, rfl, hM_push k9 hmcd, ?_, k12, rfl, ?_, ?_⟩
        · exact gI_ci (gI_ci (gI_ci (gI_ca (gI_tr gI_rf a2 (by decide) (by decide)) (by decide)) (by decide)) (by decide)) (by decide)
        · exact fI_si (fI_sa (fI_tr (fI_si fI_rf (by decide)) b2 (by decide) (by decide)) (by decide)) (by decide)
        · show S1.1 13 + 1 = _
          rw [k13, nI_1]
        · show S1.1 5 = _
          rw [a5]; rfl
        · show M1.1 7 = _
          rw [b5]; rfl
    · rw [if_neg d, if_neg d, if_neg d]
      by_cases l : p < n ∧ bb p ∈ ltr_1
      · obtain ⟨k, l1, l2, l3, l4, l5, l6, l7, l8⟩ := lt_ok l.2
        have hs : sg bb n p = nI (bb p) := if_pos l.1
        rw [hs] at hnm
        have hk : nmx = k := Option.some.inj (hnm.symm.trans l1)
        subst hk
        have hx : lx_1 bb n p = plc ltr_1 (bb p) := if_pos l.1
        rw [ix_1_sg ho, bp_some, hx, hs, if_neg l2, if_neg (nI_nle l6 (by omega))]
        rcases plc_is ltr_1 (bb p) with ⟨_, e2⟩ | ⟨i, hi, e, _⟩
        · exact absurd l.2 e2
        have hi : i < 13 := hi
        rw [e, if_neg (nI_pos (by omega)), c_emit e10 (by omega), m_does (M := si M 12 (nI (T + 1))) e11 hcl, bp_some, bp_some]
        unfold f_X10_step
        rw [lt_eq, bp_some, lt_eq, lt_eq, lt_eq]
        refine Or.inl ⟨-(nI (bb p)), p + 1, _, _, rfl, rfl, by omega, by omega, l.1, ⟨h.l, ?_, h.b⟩, ⟨hm.l, ?_, hm.b⟩, Or.inr ⟨l4, l5⟩, ?_, ?_, rfl, hC_push hc, rfl, hM_push hmc l3, ?_, rfl, rfl, rfl, rfl⟩
        · show S.1 2 + 1 = _
          rw [h.p, nI_1]
        · show M.1 6 + 1 = _
          rw [hm.p, nI_1]
        · exact gI_ci (gI_ci (gI_ci (gI_ci (gI_ca gI_rf (by decide)) (by decide)) (by decide)) (by decide)) (by decide)
        · exact fI_si (fI_si (fI_sa (fI_si fI_rf (by decide)) (by decide)) (by decide)) (by decide)
        · show S.1 13 + 1 = _
          rw [eT, nI_1]
      · have hk : nmx = -1 := Option.some.inj (hnm.symm.trans (lt_no ho l))
        rw [if_pos hk]
        refine Or.inr ⟨S, si M 7 (M.1 6), ?_, rfl, bad⟩
        by_cases c : p < n
        · have hs : sg bb n p = nI (bb p) := if_pos c
          have hx : lx_1 bb n p = plc ltr_1 (bb p) := if_pos c
          rw [ix_1_sg ho, bp_some, hx, plc_no (fun q => l ⟨c, q⟩), if_pos (show (-1 : Int32) < 0 by decide)]
          by_cases q : sg bb n p ≤ 0
          · rw [if_pos q]
          · rw [if_neg q]
        · rw [if_pos (show sg bb n p ≤ 0 by unfold sg; rw [if_neg c]; decide)]
