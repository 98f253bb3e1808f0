/-! the acts' text -/
theorem a_bad {bb : Nat → Nat} {n p k : Nat} {S : CS} {M : MS} (ho : bbO bb n) (h : rdS bb n p S) (hm : rdM bb n p M) (hp : p < n) (hct : M.1 28 = nI k) (hk : k ≤ 30) (hb : ¬ (actL (bb p) ∧ k < 30)) : ∃ S' M', f_X0_readAct S (nI k) = some (false, S') ∧ f_X12_readAct M = some (false, M') ∧ aF S M S' M' := by
  have hb256 := ho.b p hp
  have hs : sg bb n p = nI (bb p) := if_pos hp
  have hl : lx_2 bb n p = plc ltr_2 (bb p) := if_pos hp
  refine ⟨ci S 5 (S.1 2), si M 7 (M.1 6), ?_, ?_, ⟨gI_ci gI_rf (by decide), fI_si fI_rf (by decide), by show S.1 2 = M.1 6; rw [h.p, hm.p]⟩⟩
  · unfold f_X0_readAct f_X10_failHere
    rw [c_peek ho h (by omega), bp_some, ix_2_sg ho, bp_some, hl]
    rcases plc_is ltr_2 (bb p) with ⟨e, _⟩ | ⟨i, hi, e, hib, _⟩
    · rw [e, if_pos (by decide)]; rfl
    · have hi : i < 5 := hi
      have hA : actL (bb p) := by
        rw [← hib]
        unfold actL
        match i, hi with
        | 0, _ => exact Or.inl rfl
        | 1, _ => exact Or.inr (Or.inl rfl)
        | 2, _ => exact Or.inr (Or.inr (Or.inl rfl))
        | 3, _ => exact Or.inr (Or.inr (Or.inr (Or.inl rfl)))
        | 4, _ => exact Or.inr (Or.inr (Or.inr (Or.inr rfl)))
      have hk30 : ¬ k < 30 := fun z => hb ⟨hA, z⟩
      rw [e, if_neg (nI_pos (by omega)), if_neg (fun z => by rw [show (5 : Int32) = nI 5 from rfl, nI_leI (by omega) (by omega)] at z; omega), if_neg (fun z => by rw [show (30 : Int32) = nI 30 from rfl, nI_ltI (by omega) (by omega)] at z; omega)]
      rfl
  · unfold f_X12_readAct f_X12_fails
    rw [m_here ho hm (by omega), bp_some, hs]
    simp only [jn0, jn1]
    rw [hct]
    by_cases z : k = 30
    · subst z
      rw [if_pos (show nI 30 = 30 from rfl)]; rfl
    · rw [if_neg (show ¬ nI k = 30 from fun e => z ((nI_eq (a := k) (b := 30) (by omega) (by omega)).mp e))]
      have hA : ¬ actL (bb p) := fun q => hb ⟨q, by omega⟩
      unfold actL at hA
      have ne : ∀ x, x < 256 → ¬ bb p = x → ¬ nI (bb p) = nI x := fun x hx q e => q ((nI_eq (by omega) (by omega)).mp e)
      rw [if_neg (show ¬ nI (bb p) = 114 from ne 114 (by decide) (by omega)), if_neg (show ¬ nI (bb p) = 115 from ne 115 (by decide) (by omega)), if_neg (show ¬ nI (bb p) = 100 from ne 100 (by decide) (by omega)), if_neg (show ¬ nI (bb p) = 112 from ne 112 (by decide) (by omega)), if_neg (show ¬ nI (bb p) = 98 from ne 98 (by decide) (by omega))]
      rfl
theorem a_all {bb : Nat → Nat} {n p k : Nat} {S : CS} {M : MS} (ho : bbO bb n) (h : rdS bb n p S) (hm : rdM bb n p M) (hp : p < n) (hct : M.1 28 = nI k) (hr : actR k S M) (hf : S.1 5 = M.1 7) (hk : k ≤ 30) : ∃ o S' M', f_X0_readAct S (nI k) = some (o, S') ∧ f_X12_readAct M = some (o, M') ∧ (o = true → k < 30 ∧ aG bb n S M p k S' M') ∧ (o = false → aF S M S' M') := by
  by_cases c : actL (bb p) ∧ k < 30
  · have hQ : aQ bb n S M p k (f_X0_readAct S (nI k)) (f_X12_readAct M) := by
      rcases c.1 with e | e | e | e | e
      · exact a_one_114 ho h hm hp hct hr hf c.2 e
      · exact a_one_115 ho h hm hp hct hr hf c.2 e
      · exact a_one_100 ho h hm hp hct hr hf c.2 e
      · exact a_one_112 ho h hm hp hct hr hf c.2 e
      · exact a_one_98 ho h hm hp hct hr hf c.2 e
    obtain ⟨o, S', M', q1, q2, q3, q4⟩ := hQ
    exact ⟨o, S', M', q1, q2, fun z => ⟨c.2, q3 z⟩, q4⟩
  · obtain ⟨S', M', q1, q2, q3⟩ := a_bad ho h hm hp hct hk c
    exact ⟨false, S', M', q1, q2, fun z => (by cases z), fun _ => q3⟩
def rdQ (S0 : CS) (M0 : MS) (KM : MS → Int32 → Option (Int32 × MS)) (oc : Option (Int32 × CS)) (om : Option (Int32 × MS)) : Prop := ∃ S' M', aF S0 M0 S' M' ∧ ((∃ c, c ≤ 30 ∧ oc = some (nI c, S') ∧ om = KM M' 1 ∧ actR c S' M' ∧ M'.1 28 = nI c) ∨ (oc = some (-1, S') ∧ om = KM M' 0))
theorem aF_tr {S0 S S' : CS} {M0 M M' : MS} (h : aF S0 M0 S M) (h2 : aF S M S' M') : aF S0 M0 S' M' := ⟨gI_tr h.1 h2.1 (fun _ z => z) (fun _ z => z), fI_tr h.2.1 h2.2.1 (fun _ z => z) (fun _ z => z), h2.2.2⟩
theorem rd_over {bb : Nat → Nat} {n : Nat} (S0 : CS) (M0 : MS) (KM : MS → Int32 → Option (Int32 × MS)) {f : Nat} {S : CS} {M : MS} {p k : Nat} (ho : bbO bb n) (h : rdS bb n p S) (hm : rdM bb n p M) (hp : p ≤ n) (hn : ¬ p < n) (hk : k ≤ 30) (hct : M.1 28 = nI k) (hr : actR k S M) (hF : aF S0 M0 S M) : rdQ S0 M0 KM (L_X0_readFrom_2 (fun S13 x14 => some (x14, S13)) (f + 1) S (nI k)) (L_X12_acts_11 KM (f + 1) M 1) := by
  have hn6 := ho.n
  refine ⟨S, M, hF, Or.inl ⟨k, hk, ?_, ?_, hr, hct⟩⟩
  · unfold L_X0_readFrom_2
    rw [lo2_succ]
    unfold f_X10_isOver
    rw [h.l, h.p, if_neg (fun z => by rw [show (30 : Int32) = nI 30 from rfl, nI_ltI (by omega) (by omega)] at z; omega), if_neg (fun z => by rw [nI_ltI (by omega) (by omega)] at z; omega), bp_some, if_pos rfl]
  · unfold L_X12_acts_11
    rw [lo2_succ]
    rw [if_neg (by decide), hm.l, hm.p, if_pos ((nI_leI (by omega) (by omega)).mpr (by omega))]
theorem rd_loop {bb : Nat → Nat} {n : Nat} (S0 : CS) (M0 : MS) (KM : MS → Int32 → Option (Int32 × MS)) (ho : bbO bb n) : ∀ (f : Nat) (S : CS) (M : MS) (p k : Nat), n - p ≤ f → rdS bb n p S → rdM bb n p M → p ≤ n → k ≤ 30 → M.1 28 = nI k → actR k S M → aF S0 M0 S M → rdQ S0 M0 KM (L_X0_readFrom_2 (fun S13 x14 => some (x14, S13)) (f + 1 + 1) S (nI k)) (L_X12_acts_11 KM (f + 1 + 1) M 1) := by
  have hn6 := ho.n
  intro f
  induction f with
  | zero => intro S M p k hnp h hm hp hk hct hr hF; exact rd_over S0 M0 KM ho h hm hp (by omega) hk hct hr hF
  | succ f ih =>
    intro S M p k hnp h hm hp hk hct hr hF
    by_cases c : p < n
    · obtain ⟨o, S', M', q1, q2, q3, q4⟩ := a_all ho h hm c hct hr hF.2.2 hk
      have e1 : L_X0_readFrom_2 (fun S13 x14 => some (x14, S13)) (f + 1 + 1 + 1) S (nI k) = (if o = true then L_X0_readFrom_2 (fun S13 x14 => some (x14, S13)) (f + 1 + 1) S' (nI (k + 1)) else some (-1, S')) := by
        unfold L_X0_readFrom_2
        rw [lo2_succ]
        unfold f_X10_isOver
        rw [h.l, h.p, if_neg (fun z => by rw [show (30 : Int32) = nI 30 from rfl, nI_ltI (by omega) (by omega)] at z; omega), if_pos ((nI_ltI (by omega) (by omega)).mpr c), bp_some, if_neg (by decide), q1, bw_some, lt_eq, nI_1]
      have e2 : L_X12_acts_11 KM (f + 1 + 1 + 1) M 1 = L_X12_acts_11 KM (f + 1 + 1) M' (b2 o) := by
        unfold L_X12_acts_11
        rw [lo2_succ]
        rw [if_neg (by decide), hm.l, hm.p, if_neg (fun z => by rw [nI_leI (by omega) (by omega)] at z; omega), q2, bw_some, lt_eq]
      rw [e1, e2]
      cases o with
      | true =>
        obtain ⟨k30, g1, p', g2, g3, g4, g5, g6, g7⟩ := q3 rfl
        rw [if_pos rfl]
        exact ih S' M' p' (k + 1) (by omega) g4 g5 g3 (by omega) g6 g7 (aF_tr hF g1)
      | false =>
        rw [if_neg (by decide)]
        refine ⟨S', M', aF_tr hF (q4 rfl), Or.inr ⟨rfl, ?_⟩⟩
        unfold L_X12_acts_11
        rw [lo2_succ]
        rw [if_pos (by rfl)]; rfl
    · exact rd_over S0 M0 KM ho h hm hp c hk hct hr hF
