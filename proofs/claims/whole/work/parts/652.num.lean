/-! numbers in bounds -/
def bnd (x lo hi : Int32) : Bool := if x < lo then false else decide (x ≤ hi)
theorem m_isIn (x lo hi : Int32) : f_X12_isIn x lo hi = some (bnd x lo hi) := by
  unfold f_X12_isIn bnd
  by_cases c1 : x < lo
  · rw [if_pos c1, if_pos c1]
  · rw [if_neg c1, if_neg c1]
    by_cases c2 : x ≤ hi
    · rw [if_neg (fun z => by rw [Int32.le_iff_toInt_le] at c2; rw [Int32.lt_iff_toInt_lt] at z; omega), decide_eq_true c2]
    · rw [if_pos (by rw [Int32.le_iff_toInt_le] at c2; rw [Int32.lt_iff_toInt_lt]; omega), decide_eq_false c2]
theorem m_rnum {bb : Nat → Nat} {n p : Nat} {M : MS} {lo hi : Int32} (ho : bbO bb n) (h : rdM bb n p M) (hp : p ≤ n) {a : Nat} (ha : a < 1177) : ∃ M', f_X12_readNumber M (nI a) lo hi = some (nmO bb n p && bnd (nmV bb n p) lo hi, M') ∧ fI [6, 7, 8] [0] M M' ∧ rdM bb n (nmE bb n p) M' ∧ ((nmO bb n p && bnd (nmV bb n p) lo hi) = true → M'.2 0 = upd (M.2 0) a (nmV bb n p)) ∧ M'.1 7 = (if nmO bb n p = true then (if bnd (nmV bb n p) lo hi = true then M.1 7 else nI p) else nI (nmE bb n p)) := by
  have hb := nm_b (bb := bb) hp
  unfold f_X12_readNumber
  rw [lt_eq, m_here ho h hp, bp_some]
  simp only [jn1]
  have fin : ∀ (M1 : MS) (v : Int32), fI [6, 7, 8] [] M M1 → rdM bb n (nmE bb n p) M1 → v = nmV bb n p → M1.1 7 = M.1 7 → nmO bb n p = true → ∃ M', (bp (f_X12_isIn v lo hi) (fun x8 => if x8 = true then chk (nI a) 1177 (lt (sa M1 0 (upd (M1.2 0) (nI a).toNatClampNeg v)) fun S9 => some (true, S9)) else bw (f_X12_fails M1 (M.1 6)) (fun x10 S11 => some (x10, S11)))) = some (nmO bb n p && bnd (nmV bb n p) lo hi, M') ∧ fI [6, 7, 8] [0] M M' ∧ rdM bb n (nmE bb n p) M' ∧ ((nmO bb n p && bnd (nmV bb n p) lo hi) = true → M'.2 0 = upd (M.2 0) a (nmV bb n p)) ∧ M'.1 7 = (if nmO bb n p = true then (if bnd (nmV bb n p) lo hi = true then M.1 7 else nI p) else nI (nmE bb n p)) := by
    intro M1 v f1 r1 ev f7 hO
    have hg : fI [6, 7, 8] [0] M M1 := fI_tr fI_rf f1 (by decide) (by decide)
    rw [m_isIn, bp_some, hO, ev]
    cases hB : bnd (nmV bb n p) lo hi with
    | true =>
      rw [if_pos rfl, chk_nI ha (by decide), lt_eq, nI_clamp (by omega), f1.2 0 (by decide)]
      exact ⟨_, rfl, fI_sa hg (by decide), ⟨r1.l, r1.p, r1.b⟩, fun _ => rfl, f7⟩
    | false =>
      unfold f_X12_fails
      rw [if_neg (by decide), lt_eq, bw_some]
      exact ⟨_, rfl, fI_si hg (by decide), ⟨r1.l, r1.p, r1.b⟩, fun z => (by cases z), h.p⟩
  have bad : ∀ (M1 : MS), fI [6, 7, 8] [] M M1 → rdM bb n (nmE bb n p) M1 → M1.1 7 = nI (nmE bb n p) → nmO bb n p = false → ∃ M', some (false, M1) = some (nmO bb n p && bnd (nmV bb n p) lo hi, M') ∧ fI [6, 7, 8] [0] M M' ∧ rdM bb n (nmE bb n p) M' ∧ ((nmO bb n p && bnd (nmV bb n p) lo hi) = true → M'.2 0 = upd (M.2 0) a (nmV bb n p)) ∧ M'.1 7 = (if nmO bb n p = true then (if bnd (nmV bb n p) lo hi = true then M.1 7 else nI p) else nI (nmE bb n p)) := by
    intro M1 f1 r1 f7 hO
    rw [hO]
    exact ⟨M1, rfl, fI_tr fI_rf f1 (by decide) (by decide), r1, fun z => (by cases z), f7⟩
  by_cases c : sg bb n p = 45
  · have hs : nmS bb n p = p + 1 := if_pos c
    rw [if_pos c, if_neg (by decide), lt_eq]
    have e2 : (si M 6 (M.1 6 + 1)).1 6 = nI (p + 1) := by show M.1 6 + 1 = _; rw [h.p, nI_1]
    have h2 : rdM bb n (p + 1) (si M 6 (M.1 6 + 1)) := ⟨h.l, e2, h.b⟩
    obtain ⟨M', d1, d2, d3, d4, d5⟩ := m_digits ho h2 (by rw [hs] at hb; exact hb.1)
    have hg : fI [6, 7, 8] [] M M' := fI_tr (fI_si fI_rf (by decide)) d2 (by decide) (by decide)
    have eE : nmE bb n p = (dgR bb n 7 (p + 1) 0).1 := by unfold nmE; rw [hs]
    have eO : nmO bb n p = dgO bb n (p + 1) := by unfold nmO; rw [hs]
    rw [← eE] at d3
    rw [d1, bw_some]
    cases hO : dgO bb n (p + 1) with
    | true =>
      rw [hO] at d4 d5
      rw [if_pos rfl, if_neg (by decide)]
      refine fin M' _ hg d3 ?_ d5 (by rw [eO, hO])
      unfold nmV
      rw [if_pos c, hs, d4 rfl]
    | false =>
      rw [hO] at d5
      rw [if_neg (by decide)]
      exact bad M' hg d3 (by rw [eE]; exact d5) (by rw [eO, hO])
  · have hs : nmS bb n p = p := if_neg c
    rw [if_neg c, if_pos trivial]
    obtain ⟨M', d1, d2, d3, d4, d5⟩ := m_digits ho h hp
    have hg : fI [6, 7, 8] [] M M' := d2
    have eE : nmE bb n p = (dgR bb n 7 p 0).1 := by unfold nmE; rw [hs]
    have eO : nmO bb n p = dgO bb n p := by unfold nmO; rw [hs]
    rw [← eE] at d3
    rw [d1, bw_some]
    cases hO : dgO bb n p with
    | true =>
      rw [hO] at d4 d5
      rw [if_pos rfl, if_pos trivial]
      refine fin M' _ hg d3 ?_ d5 (by rw [eO, hO])
      unfold nmV
      rw [if_neg c, hs, d4 rfl]
    | false =>
      rw [hO] at d5
      rw [if_neg (by decide)]
      exact bad M' hg d3 (by rw [eE]; exact d5) (by rw [eO, hO])
