/-! the acts: reading -/
theorem m_any {bb : Nat → Nat} {n p : Nat} {M : MS} (ho : bbO bb n) (h : rdM bb n p M) (hp : p ≤ n) {a : Nat} (ha : a < 120) : ∃ M', f_X12_readAny M (nI a) = some (nmO bb n p, M') ∧ fI [6, 7, 8] [26] M M' ∧ rdM bb n (nmE bb n p) M' ∧ (nmO bb n p = true → M'.2 26 = upd (M.2 26) a (nmV bb n p)) ∧ M'.1 7 = (if nmO bb n p = true then M.1 7 else nI (nmE bb n p)) := by
  have hb := nm_b (bb := bb) hp
  unfold f_X12_readAny
  rw [m_here ho h hp, bp_some]
  simp only [jn1]
  unfold nmO nmE nmV
  by_cases c : sg bb n p = 45
  · have hs : nmS bb n p = p + 1 := if_pos c
    rw [if_pos c, if_neg (by decide), if_pos c, lt_eq]
    rw [hs] at hb ⊢
    have e2 : (si M 6 (M.1 6 + 1)).1 6 = nI (p + 1) := by show M.1 6 + 1 = _; rw [h.p, nI_1]
    have h2 : rdM bb n (p + 1) (si M 6 (M.1 6 + 1)) := ⟨h.l, e2, h.b⟩
    obtain ⟨M', d1, d2, d3, d4, d5⟩ := m_digits ho h2 hb.1
    have hg : fI [6, 7, 8] [26] M M' := fI_tr (fI_si fI_rf (by decide)) d2 (by decide) (by decide)
    have e26 : M'.2 26 = M.2 26 := d2.2 26 (by decide)
    rw [d1, bw_some]
    cases hO : dgO bb n (p + 1) with
    | true =>
      rw [hO] at d4 d5
      rw [if_pos rfl, if_neg (by decide), chk_nI ha (by decide), lt_eq, nI_clamp (by omega), e26, d4 rfl]
      exact ⟨_, rfl, fI_sa hg (by decide), ⟨d3.l, d3.p, d3.b⟩, fun _ => rfl, d5⟩
    | false =>
      rw [hO] at d5
      rw [if_neg (by decide)]
      exact ⟨M', rfl, hg, d3, fun z => (by cases z), d5⟩
  · have hs : nmS bb n p = p := if_neg c
    rw [if_neg c, if_pos trivial, if_neg c]
    rw [hs] at hb ⊢
    obtain ⟨M', d1, d2, d3, d4, d5⟩ := m_digits ho h hp
    have hg : fI [6, 7, 8] [26] M M' := fI_tr fI_rf d2 (by decide) (by decide)
    have e26 : M'.2 26 = M.2 26 := d2.2 26 (by decide)
    rw [d1, bw_some]
    cases hO : dgO bb n p with
    | true =>
      rw [hO] at d4 d5
      rw [if_pos rfl, if_pos trivial, chk_nI ha (by decide), lt_eq, nI_clamp (by omega), e26, d4 rfl]
      exact ⟨_, rfl, fI_sa hg (by decide), ⟨d3.l, d3.p, d3.b⟩, fun _ => rfl, d5⟩
    | false =>
      rw [hO] at d5
      rw [if_neg (by decide)]
      exact ⟨M', rfl, hg, d3, fun z => (by cases z), d5⟩
/-- how many numbers an act has, which letters there are, that both hold the same acts -/
def actC (L : Nat) : Nat := if L = 98 then 3 else if L = 112 then 2 else 1
theorem actC_3 {L : Nat} : actC L ≤ 3 := by
  unfold actC
  split
  · omega
  · split <;> omega
def actL (L : Nat) : Prop := L = 114 ∨ L = 115 ∨ L = 100 ∨ L = 112 ∨ L = 98
def actR (k : Nat) (S : CS) (M : MS) : Prop := ∀ i, i < k → ∃ L, actL L ∧ S.2.1 31 i = nI L ∧ M.2 26 (4 * i) = nI L ∧ ∀ j, j < actC L → S.2.1 32 (3 * i + j) = M.2 26 (4 * i + 1 + j)
def aF (S0 : CS) (M0 : MS) (S : CS) (M : MS) : Prop := gI [2, 3, 4, 5] [31, 32] S0 S ∧ fI [6, 7, 8, 28] [26] M0 M ∧ S.1 5 = M.1 7
def aI (bb : Nat → Nat) (n : Nat) (S0 : CS) (M0 : MS) (p0 : Nat) (k : Nat) (L : Nat) (j : Nat) (S : CS) (M : MS) (p : Nat) : Prop := (rdS bb n p S) ∧ (rdM bb n p M) ∧ (p0 < p) ∧ (p ≤ n) ∧ (gI [2, 3, 4, 5] [31, 32] S0 S) ∧ (fI [6, 7, 8, 28] [26] M0 M) ∧ (S.1 5 = M.1 7) ∧ (M.1 28 = nI k) ∧ (actR k S M) ∧ (S.2.1 31 k = nI L) ∧ (M.2 26 (4 * k) = nI L) ∧ (∀ i, i < j → S.2.1 32 (3 * k + i) = M.2 26 (4 * k + 1 + i))
theorem aI.s {bb : Nat → Nat} {n : Nat} {S0 : CS} {M0 : MS} {p0 : Nat} {k : Nat} {L : Nat} {j : Nat} {S : CS} {M : MS} {p : Nat} (h : aI bb n S0 M0 p0 k L j S M p) : rdS bb n p S := h.1
theorem aI.m {bb : Nat → Nat} {n : Nat} {S0 : CS} {M0 : MS} {p0 : Nat} {k : Nat} {L : Nat} {j : Nat} {S : CS} {M : MS} {p : Nat} (h : aI bb n S0 M0 p0 k L j S M p) : rdM bb n p M := h.2.1
theorem aI.lo {bb : Nat → Nat} {n : Nat} {S0 : CS} {M0 : MS} {p0 : Nat} {k : Nat} {L : Nat} {j : Nat} {S : CS} {M : MS} {p : Nat} (h : aI bb n S0 M0 p0 k L j S M p) : p0 < p := h.2.2.1
theorem aI.hi {bb : Nat → Nat} {n : Nat} {S0 : CS} {M0 : MS} {p0 : Nat} {k : Nat} {L : Nat} {j : Nat} {S : CS} {M : MS} {p : Nat} (h : aI bb n S0 M0 p0 k L j S M p) : p ≤ n := h.2.2.2.1
theorem aI.gs {bb : Nat → Nat} {n : Nat} {S0 : CS} {M0 : MS} {p0 : Nat} {k : Nat} {L : Nat} {j : Nat} {S : CS} {M : MS} {p : Nat} (h : aI bb n S0 M0 p0 k L j S M p) : gI [2, 3, 4, 5] [31, 32] S0 S := h.2.2.2.2.1
theorem aI.fm {bb : Nat → Nat} {n : Nat} {S0 : CS} {M0 : MS} {p0 : Nat} {k : Nat} {L : Nat} {j : Nat} {S : CS} {M : MS} {p : Nat} (h : aI bb n S0 M0 p0 k L j S M p) : fI [6, 7, 8, 28] [26] M0 M := h.2.2.2.2.2.1
theorem aI.fa {bb : Nat → Nat} {n : Nat} {S0 : CS} {M0 : MS} {p0 : Nat} {k : Nat} {L : Nat} {j : Nat} {S : CS} {M : MS} {p : Nat} (h : aI bb n S0 M0 p0 k L j S M p) : S.1 5 = M.1 7 := h.2.2.2.2.2.2.1
theorem aI.ct {bb : Nat → Nat} {n : Nat} {S0 : CS} {M0 : MS} {p0 : Nat} {k : Nat} {L : Nat} {j : Nat} {S : CS} {M : MS} {p : Nat} (h : aI bb n S0 M0 p0 k L j S M p) : M.1 28 = nI k := h.2.2.2.2.2.2.2.1
theorem aI.rr {bb : Nat → Nat} {n : Nat} {S0 : CS} {M0 : MS} {p0 : Nat} {k : Nat} {L : Nat} {j : Nat} {S : CS} {M : MS} {p : Nat} (h : aI bb n S0 M0 p0 k L j S M p) : actR k S M := h.2.2.2.2.2.2.2.2.1
theorem aI.ls {bb : Nat → Nat} {n : Nat} {S0 : CS} {M0 : MS} {p0 : Nat} {k : Nat} {L : Nat} {j : Nat} {S : CS} {M : MS} {p : Nat} (h : aI bb n S0 M0 p0 k L j S M p) : S.2.1 31 k = nI L := h.2.2.2.2.2.2.2.2.2.1
theorem aI.lm {bb : Nat → Nat} {n : Nat} {S0 : CS} {M0 : MS} {p0 : Nat} {k : Nat} {L : Nat} {j : Nat} {S : CS} {M : MS} {p : Nat} (h : aI bb n S0 M0 p0 k L j S M p) : M.2 26 (4 * k) = nI L := h.2.2.2.2.2.2.2.2.2.2.1
theorem aI.nu {bb : Nat → Nat} {n : Nat} {S0 : CS} {M0 : MS} {p0 : Nat} {k : Nat} {L : Nat} {j : Nat} {S : CS} {M : MS} {p : Nat} (h : aI bb n S0 M0 p0 k L j S M p) : ∀ i, i < j → S.2.1 32 (3 * k + i) = M.2 26 (4 * k + 1 + i) := h.2.2.2.2.2.2.2.2.2.2.2
theorem a_num {bb : Nat → Nat} {n : Nat} {S0 : CS} {M0 : MS} {p0 k L j : Nat} {S : CS} {M : MS} {p : Nat} (ho : bbO bb n) (hk : k < 30) (hj : j < 3) (h : aI bb n S0 M0 p0 k L j S M p) : ∃ o S' M', f_X10_readNumber S = some (o, S') ∧ f_X12_readAny M (nI (4 * k + 1 + j)) = some (o, M') ∧ (o = true → ∃ p', aI bb n S0 M0 p0 k L (j + 1) (ca S' 32 (upd (S'.2.1 32) (3 * k + j) (S'.1 3))) M' p') ∧ (o = false → aF S0 M0 S' M') := by
  obtain ⟨S', c1, c2, c3, c4, c5, c6⟩ := c_number ho h.s h.hi
  obtain ⟨M', m1, m2, m3, m4, m6⟩ := m_any ho h.m h.hi (a := 4 * k + 1 + j) (by omega)
  have hb := nm_b (bb := bb) h.hi
  have gs : gI [2, 3, 4, 5] [31, 32] S0 S' := gI_tr h.gs c2 (by decide) (by decide)
  have fm : fI [6, 7, 8, 28] [26] M0 M' := fI_tr h.fm m2 (by decide) (by decide)
  have fa : S'.1 5 = M'.1 7 := by rw [c6, m6, h.fa]
  have e31 : S'.2.1 31 = S.2.1 31 := c2.2.1 31 (by decide)
  have e32 : S'.2.1 32 = S.2.1 32 := c2.2.1 32 (by decide)
  refine ⟨_, S', M', c1, m1, fun hO => ?_, fun _ => ⟨gs, fm, fa⟩⟩
  have e26 := m4 hO
  have x31 : (ca S' 32 (upd (S'.2.1 32) (3 * k + j) (S'.1 3))).2.1 31 = S.2.1 31 := e31
  have x32 : (ca S' 32 (upd (S'.2.1 32) (3 * k + j) (S'.1 3))).2.1 32 = upd (S.2.1 32) (3 * k + j) (nmV bb n p) := by
    show upd (S'.2.1 32) (3 * k + j) (S'.1 3) = _
    rw [e32, c4 hO]
  refine ⟨nmE bb n p, ⟨c3.l, c3.p, c3.b⟩, m3, (by have := h.lo; omega), hb.2.2, gI_ca gs (by decide), fm, fa, (by rw [m2.1 28 (by decide)]; exact h.ct), ?_, (by rw [x31]; exact h.ls), (by rw [e26, pk_un (by omega)]; exact h.lm), ?_⟩
  · intro i hi
    obtain ⟨L', q1, q2, q3, q4⟩ := h.rr i hi
    refine ⟨L', q1, by rw [x31]; exact q2, by rw [e26, pk_un (by omega)]; exact q3, fun j' hj' => ?_⟩
    have := actC_3 (L := L')
    rw [x32, e26, pk_un (by omega), pk_un (by omega)]
    exact q4 j' hj'
  · intro i hi
    rw [x32, e26]
    by_cases z : i = j
    · subst z; rw [pk_us, pk_us]
    · rw [pk_un (by omega), pk_un (by omega)]
      exact h.nu i (by omega)
theorem a_pass {bb : Nat → Nat} {n : Nat} {S0 : CS} {M0 : MS} {p0 k L j : Nat} {S : CS} {M : MS} {p : Nat} (ho : bbO bb n) (c : Nat) (hc : c < 256) (h : aI bb n S0 M0 p0 k L j S M p) : ∃ o S' M', f_X10_pass S (nI c) = some (o, S') ∧ f_X12_takes M (nI c) = some (o, M') ∧ (o = true → ∃ p', aI bb n S0 M0 p0 k L j S' M' p') ∧ (o = false → aF S0 M0 S' M') := by
  obtain ⟨S', c1, c2, c3, c6⟩ := c_pass ho h.s h.hi c hc
  obtain ⟨M', m1, m2, m3, m6⟩ := m_takes ho h.m h.hi c hc
  have gs : gI [2, 3, 4, 5] [31, 32] S0 S' := gI_tr h.gs c2 (by decide) (by decide)
  have fm : fI [6, 7, 8, 28] [26] M0 M' := fI_tr h.fm m2 (by decide) (by decide)
  have fa : S'.1 5 = M'.1 7 := by rw [c6, m6, h.fa]
  have e31 : S'.2.1 31 = S.2.1 31 := c2.2.1 31 (by decide)
  have e32 : S'.2.1 32 = S.2.1 32 := c2.2.1 32 (by decide)
  have e26 : M'.2 26 = M.2 26 := m2.2 26 (by decide)
  refine ⟨_, S', M', c1, m1, fun hO => ?_, fun _ => ⟨gs, fm, fa⟩⟩
  have hO := of_decide_eq_true hO
  rw [if_pos hO] at c3 m3
  have hl := sg_lt hO hc
  refine ⟨p + 1, c3, m3, (by have := h.lo; omega), hl, gs, fm, fa, (by rw [m2.1 28 (by decide)]; exact h.ct), ?_, (by rw [e31]; exact h.ls), (by rw [e26]; exact h.lm), (by rw [e32, e26]; exact h.nu)⟩
  intro i hi
  rw [e31, e32, e26]
  exact h.rr i hi
/-- an act was read -/
def aG (bb : Nat → Nat) (n : Nat) (S0 : CS) (M0 : MS) (p0 k : Nat) (S : CS) (M : MS) : Prop := aF S0 M0 S M ∧ ∃ p, p0 < p ∧ p ≤ n ∧ rdS bb n p S ∧ rdM bb n p M ∧ M.1 28 = nI (k + 1) ∧ actR (k + 1) S M
theorem a_tail {bb : Nat → Nat} {n : Nat} {S0 : CS} {M0 : MS} {p0 k L : Nat} {S : CS} {M : MS} {p : Nat} (ho : bbO bb n) (hL : actL L) (h : aI bb n S0 M0 p0 k L (actC L) S M p) : ∃ o S' M', f_X10_pass S (nI 59) = some (o, S') ∧ f_X12_takes (si M 28 (M.1 28 + 1)) (nI 59) = some (o, M') ∧ (o = true → aG bb n S0 M0 p0 k S' M') ∧ (o = false → aF S0 M0 S' M') := by
  have hm : rdM bb n p (si M 28 (M.1 28 + 1)) := ⟨h.m.l, h.m.p, h.m.b⟩
  obtain ⟨S', c1, c2, c3, c6⟩ := c_pass ho h.s h.hi 59 (by decide)
  obtain ⟨M', m1, m2, m3, m6⟩ := m_takes ho hm h.hi 59 (by decide)
  have gs : gI [2, 3, 4, 5] [31, 32] S0 S' := gI_tr h.gs c2 (by decide) (by decide)
  have fm : fI [6, 7, 8, 28] [26] M0 M' := fI_tr (fI_si h.fm (by decide)) m2 (by decide) (by decide)
  have fa : S'.1 5 = M'.1 7 := by
    rw [c6, m6]
    by_cases z : sg bb n p = nI 59
    · rw [if_pos z, if_pos z]; exact h.fa
    · rw [if_neg z, if_neg z]
  have e31 : S'.2.1 31 = S.2.1 31 := c2.2.1 31 (by decide)
  have e32 : S'.2.1 32 = S.2.1 32 := c2.2.1 32 (by decide)
  have e26 : M'.2 26 = M.2 26 := m2.2 26 (by decide)
  refine ⟨_, S', M', c1, m1, fun hO => ⟨⟨gs, fm, fa⟩, ?_⟩, fun _ => ⟨gs, fm, fa⟩⟩
  have hO := of_decide_eq_true hO
  rw [if_pos hO] at c3 m3
  have hl := sg_lt hO (by decide)
  refine ⟨p + 1, (by have := h.lo; omega), hl, c3, m3, ?_, ?_⟩
  · rw [m2.1 28 (by decide)]
    show M.1 28 + 1 = _
    rw [h.ct, nI_1]
  · intro i hi
    rw [e31, e32, e26]
    by_cases z : i = k
    · subst z; exact ⟨L, hL, h.ls, h.lm, h.nu⟩
    · exact h.rr i (by omega)
