/-! a field of a text -/
def rb (V : VW) (c : Nat) : Nat := if c = 0 then 5 + 2 * V.ne else if c = 1 then 17 + 2 * V.np else if c = 2 then 33 + 2 * V.na else 65 + 11 * V.n
def cnum (V : VW) (c j : Nat) (K1 : CS → Option (Bool × CS)) (S : CS) : Option (Bool × CS) := bw (f_X10_readNumber S) (fun x16 S17 => if x16 = true then bp (f_X6_canBe S17 (nI c) (nI j) (S17.1 3) (nI V.td)) (fun x18 => if x18 = true then K1 S17 else bw (f_X10_failAtNumber S17) (fun x26 S27 => some (x26, S27))) else some (false, S17))
def iF (V : VW) (S0 : CS) (M0 : MS) (S : CS) (M : MS) : Prop := keepC V S0 S ∧ fI [6, 7, 8] [0] M0 M ∧ S.1 5 = M.1 7
def iI (bb : Nat → Nat) (n : Nat) (V : VW) (S0 : CS) (M0 : MS) (p0 : Nat) (c : Nat) (jc : Nat) (jm : Nat) (S : CS) (M : MS) (p : Nat) (v : Nat → Int32) : Prop := (rdS bb n p S) ∧ (rdM bb n p M) ∧ (p0 < p) ∧ (p ≤ n) ∧ (keepC V S0 S) ∧ (∀ i, i < jc → S.2.1 (ar c i) (cnt V c) = v i) ∧ (fI [6, 7, 8] [0] M0 M) ∧ (∀ i, ¬ (rb V c ≤ i ∧ i < rb V c + fO c) → M.2 0 i = M0.2 0 i) ∧ (∀ i, i < jm → M.2 0 (rb V c + i) = v i) ∧ (S.1 5 = M.1 7) ∧ (∀ i, i < jm → bnd (v i) (loI c i) (hiI V c i) = true) ∧ (jc < jm → S.1 3 = v jc)
theorem iI.s {bb : Nat → Nat} {n : Nat} {V : VW} {S0 : CS} {M0 : MS} {p0 : Nat} {c : Nat} {jc : Nat} {jm : Nat} {S : CS} {M : MS} {p : Nat} {v : Nat → Int32} (h : iI bb n V S0 M0 p0 c jc jm S M p v) : rdS bb n p S := h.1
theorem iI.m {bb : Nat → Nat} {n : Nat} {V : VW} {S0 : CS} {M0 : MS} {p0 : Nat} {c : Nat} {jc : Nat} {jm : Nat} {S : CS} {M : MS} {p : Nat} {v : Nat → Int32} (h : iI bb n V S0 M0 p0 c jc jm S M p v) : rdM bb n p M := h.2.1
theorem iI.lo {bb : Nat → Nat} {n : Nat} {V : VW} {S0 : CS} {M0 : MS} {p0 : Nat} {c : Nat} {jc : Nat} {jm : Nat} {S : CS} {M : MS} {p : Nat} {v : Nat → Int32} (h : iI bb n V S0 M0 p0 c jc jm S M p v) : p0 < p := h.2.2.1
theorem iI.hi {bb : Nat → Nat} {n : Nat} {V : VW} {S0 : CS} {M0 : MS} {p0 : Nat} {c : Nat} {jc : Nat} {jm : Nat} {S : CS} {M : MS} {p : Nat} {v : Nat → Int32} (h : iI bb n V S0 M0 p0 c jc jm S M p v) : p ≤ n := h.2.2.2.1
theorem iI.kc {bb : Nat → Nat} {n : Nat} {V : VW} {S0 : CS} {M0 : MS} {p0 : Nat} {c : Nat} {jc : Nat} {jm : Nat} {S : CS} {M : MS} {p : Nat} {v : Nat → Int32} (h : iI bb n V S0 M0 p0 c jc jm S M p v) : keepC V S0 S := h.2.2.2.2.1
theorem iI.vs {bb : Nat → Nat} {n : Nat} {V : VW} {S0 : CS} {M0 : MS} {p0 : Nat} {c : Nat} {jc : Nat} {jm : Nat} {S : CS} {M : MS} {p : Nat} {v : Nat → Int32} (h : iI bb n V S0 M0 p0 c jc jm S M p v) : ∀ i, i < jc → S.2.1 (ar c i) (cnt V c) = v i := h.2.2.2.2.2.1
theorem iI.fm {bb : Nat → Nat} {n : Nat} {V : VW} {S0 : CS} {M0 : MS} {p0 : Nat} {c : Nat} {jc : Nat} {jm : Nat} {S : CS} {M : MS} {p : Nat} {v : Nat → Int32} (h : iI bb n V S0 M0 p0 c jc jm S M p v) : fI [6, 7, 8] [0] M0 M := h.2.2.2.2.2.2.1
theorem iI.ag {bb : Nat → Nat} {n : Nat} {V : VW} {S0 : CS} {M0 : MS} {p0 : Nat} {c : Nat} {jc : Nat} {jm : Nat} {S : CS} {M : MS} {p : Nat} {v : Nat → Int32} (h : iI bb n V S0 M0 p0 c jc jm S M p v) : ∀ i, ¬ (rb V c ≤ i ∧ i < rb V c + fO c) → M.2 0 i = M0.2 0 i := h.2.2.2.2.2.2.2.1
theorem iI.vm {bb : Nat → Nat} {n : Nat} {V : VW} {S0 : CS} {M0 : MS} {p0 : Nat} {c : Nat} {jc : Nat} {jm : Nat} {S : CS} {M : MS} {p : Nat} {v : Nat → Int32} (h : iI bb n V S0 M0 p0 c jc jm S M p v) : ∀ i, i < jm → M.2 0 (rb V c + i) = v i := h.2.2.2.2.2.2.2.2.1
theorem iI.fa {bb : Nat → Nat} {n : Nat} {V : VW} {S0 : CS} {M0 : MS} {p0 : Nat} {c : Nat} {jc : Nat} {jm : Nat} {S : CS} {M : MS} {p : Nat} {v : Nat → Int32} (h : iI bb n V S0 M0 p0 c jc jm S M p v) : S.1 5 = M.1 7 := h.2.2.2.2.2.2.2.2.2.1
theorem iI.ok {bb : Nat → Nat} {n : Nat} {V : VW} {S0 : CS} {M0 : MS} {p0 : Nat} {c : Nat} {jc : Nat} {jm : Nat} {S : CS} {M : MS} {p : Nat} {v : Nat → Int32} (h : iI bb n V S0 M0 p0 c jc jm S M p v) : ∀ i, i < jm → bnd (v i) (loI c i) (hiI V c i) = true := h.2.2.2.2.2.2.2.2.2.2.1
theorem iI.x3 {bb : Nat → Nat} {n : Nat} {V : VW} {S0 : CS} {M0 : MS} {p0 : Nat} {c : Nat} {jc : Nat} {jm : Nat} {S : CS} {M : MS} {p : Nat} {v : Nat → Int32} (h : iI bb n V S0 M0 p0 c jc jm S M p v) : jc < jm → S.1 3 = v jc := h.2.2.2.2.2.2.2.2.2.2.2
theorem rb_b {V : VW} (hV : VOK V) {c : Nat} (hm : cnt V c < mx c) : rb V c + fO c ≤ 725 := by
  unfold rb fO
  unfold cnt mx at hm
  by_cases h0 : c = 0
  · subst h0; rw [if_pos rfl, if_pos rfl] at hm; rw [if_pos rfl, if_neg (by decide)]; omega
  · by_cases h1 : c = 1
    · subst h1; rw [if_neg (by decide), if_pos rfl, if_neg (by decide), if_pos rfl] at hm; rw [if_neg (by decide), if_pos rfl, if_neg (by decide)]; omega
    · by_cases h2 : c = 2
      · subst h2; rw [if_neg (by decide), if_neg (by decide), if_pos rfl, if_neg (by decide), if_neg (by decide), if_pos rfl] at hm; rw [if_neg (by decide), if_neg (by decide), if_pos rfl, if_neg (by decide)]; omega
      · rw [if_neg h0, if_neg h1, if_neg h2, if_neg h0, if_neg h1, if_neg h2] at hm
        rw [if_neg h0, if_neg h1, if_neg h2]
        split <;> omega
theorem i_num {bb : Nat → Nat} {n : Nat} {V : VW} {S0 : CS} {M0 : MS} {p0 c j : Nat} {S : CS} {M : MS} {p : Nat} {v : Nat → Int32} (ho : bbO bb n) (hV : VOK V) (hT : ∀ S', keepC V S0 S' → tC V S') (hc : c < 4) (hj : j < fO c) (hm : cnt V c < mx c) (h : iI bb n V S0 M0 p0 c j j S M p v) : (∃ S1 M1 p1 v1, f_X12_readNumber M (nI (rb V c + j)) (loI c j) (hiI V c j) = some (true, M1) ∧ (∀ K1, cnum V c j K1 S = K1 S1) ∧ iI bb n V S0 M0 p0 c j (j + 1) S1 M1 p1 v1) ∨ (∃ S1 M1, f_X12_readNumber M (nI (rb V c + j)) (loI c j) (hiI V c j) = some (false, M1) ∧ (∀ K1, cnum V c j K1 S = some (false, S1)) ∧ iF V S0 M0 S1 M1) := by
  have hrb := rb_b hV hm
  obtain ⟨S1, c1, c2, c3, c4, c5, c6⟩ := c_number ho h.s h.hi
  obtain ⟨M1, m1, m2, m3, m4, m6⟩ := m_rnum (lo := loI c j) (hi := hiI V c j) ho h.m h.hi (a := rb V c + j) (by omega)
  have hb := nm_b (bb := bb) h.hi
  have kc : keepC V S0 S1 := keepC_gI h.kc c2
  have fm : fI [6, 7, 8] [0] M0 M1 := fI_tr h.fm m2 (by decide) (by decide)
  have ca := can_all (x := S1.1 3) hV (hT S1 kc) hc hj
  cases hO : nmO bb n p with
  | false =>
    rw [hO] at c1 c6 m1 m6
    refine Or.inr ⟨S1, M1, m1, fun K1 => ?_, kc, fm, ?_⟩
    · unfold cnum
      rw [c1, bw_some, if_neg (by decide)]
    · rw [c6, m6]; rfl
  | true =>
    rw [hO] at c1 c4 c6 m1 m4 m6
    have c4 := c4 rfl
    rw [c4] at ca
    cases hB : bnd (nmV bb n p) (loI c j) (hiI V c j) with
    | false =>
      rw [hB] at ca m1 m6
      refine Or.inr ⟨ci S1 5 (S1.1 4), M1, m1, fun K1 => ?_, keepC_gI kc (gI_ci gI_rf (by decide)), fm, ?_⟩
      · unfold cnum f_X10_failAtNumber
        rw [c1, bw_some, if_pos rfl, c4, ca, bp_some, if_neg (by decide), lt_eq, bw_some]
      · show S1.1 4 = _
        rw [c5, m6]; rfl
    | true =>
      rw [hB] at ca m1 m4 m6
      have m4 := m4 rfl
      refine Or.inl ⟨S1, M1, nmE bb n p, fun i => if i = j then nmV bb n p else v i, m1, fun K1 => ?_, c3, m3, (by have := h.lo; omega), hb.2.2, kc, ?_, fm, ?_, ?_, ?_, ?_, ?_⟩
      · unfold cnum
        rw [c1, bw_some, if_pos rfl, c4, ca, bp_some, if_pos rfl]
      · intro i hi
        show _ = if i = j then _ else _
        rw [if_neg (by omega), c2.2.1 _ (by simp)]
        exact h.vs i hi
      · intro i hi
        rw [m4, pk_un (by omega)]
        exact h.ag i hi
      · intro i hi
        show _ = if i = j then _ else _
        rw [m4]
        by_cases z : i = j
        · subst z; rw [if_pos rfl, pk_us]
        · rw [if_neg z, pk_un (by omega)]; exact h.vm i (by omega)
      · rw [c6, m6]; exact h.fa
      · intro i hi
        show bnd (if i = j then _ else _) _ _ = true
        by_cases z : i = j
        · subst z; rw [if_pos rfl]; exact hB
        · rw [if_neg z]; exact h.ok i (by omega)
      · intro _
        show _ = if j = j then _ else _
        rw [if_pos rfl]; exact c4
theorem i_sep {bb : Nat → Nat} {n : Nat} {V : VW} {S0 : CS} {M0 : MS} {p0 c j : Nat} {S : CS} {M M2 : MS} {p : Nat} {v : Nat → Int32} (ho : bbO bb n) (hT : ∀ S', keepC V S0 S' → tC V S') (hc : c < 4) (hj : j < fO c) (hm : cnt V c < mx c) (ch : Nat) (hch : ch < 256) (h : iI bb n V S0 M0 p0 c j (j + 1) S M p v) (h2 : fI [] [0] M M2) : ∃ o S1 M3, f_X10_pass S (nI ch) = some (o, S1) ∧ f_X12_takes M2 (nI ch) = some (o, M3) ∧ M3.2 0 = M2.2 0 ∧ fI [6, 7] [] M2 M3 ∧ (o = false → iF V S0 M0 S1 M3) ∧ (o = true → ∃ S2 p', f_X1_draft S1 (nI c) (nI j) (S1.1 3) = some S2 ∧ p < p' ∧ p' ≤ n ∧ rdS bb n p' S2 ∧ rdM bb n p' M3 ∧ keepC V S0 S2 ∧ (∀ i, i < j + 1 → S2.2.1 (ar c i) (cnt V c) = v i) ∧ fI [6, 7, 8] [0] M0 M3 ∧ S2.1 5 = M3.1 7) := by
  have h9 := fO_9 (c := c)
  have hm2 : rdM bb n p M2 := rdM_fI h.m h2 (by decide) (by decide) (by rw [h2.1 6 (by decide)]; exact h.m.p)
  obtain ⟨S1, c1, c2, c3, c6⟩ := c_pass ho h.s h.hi ch hch
  obtain ⟨M3, m1, m2, m3, m6⟩ := m_takes ho hm2 h.hi ch hch
  have kc : keepC V S0 S1 := keepC_gI h.kc (gI_tr gI_rf c2 (by decide) (by decide))
  have fm : fI [6, 7, 8] [0] M0 M3 := fI_tr (fI_tr h.fm h2 (by decide) (by decide)) m2 (by decide) (by decide)
  have fa : S1.1 5 = M3.1 7 := by
    rw [c6, m6]
    by_cases z : sg bb n p = nI ch
    · rw [if_pos z, if_pos z, h2.1 7 (by decide)]; exact h.fa
    · rw [if_neg z, if_neg z]
  refine ⟨_, S1, M3, c1, m1, m2.2 0 (by decide), m2, fun _ => ⟨kc, fm, fa⟩, fun hO => ?_⟩
  have hO := of_decide_eq_true hO
  rw [if_pos hO] at c3 m3
  have hl := sg_lt hO hch
  have ai := ar_in ⟨c, hc⟩ ⟨j, by omega⟩ hj
  have kd := keepC_dr kc hc hj (S1.1 3)
  have n2 : ¬ 2 = ar c j := fun z => by rw [← z] at ai; revert ai; decide
  refine ⟨_, p + 1, dr_all (hT S1 kc) hc hj hm, by omega, hl, ⟨c3.l, c3.p, ?_⟩, m3, kd, ?_, fm, fa⟩
  · rw [show (ca S1 (ar c j) (upd (S1.2.1 (ar c j)) (cnt V c) (S1.1 3))).2.1 2 = S1.2.1 2 from up_ne n2]
    exact c3.b
  · intro i hi
    by_cases z : i = j
    · subst z
      rw [show (ca S1 (ar c i) (upd (S1.2.1 (ar c i)) (cnt V c) (S1.1 3))).2.1 (ar c i) = upd (S1.2.1 (ar c i)) (cnt V c) (S1.1 3) from up_eq, pk_us, c2.1 3 (by decide)]
      exact h.x3 (by omega)
    · have na : ¬ ar c i = ar c j := fun q => by unfold ar at q; omega
      rw [show (ca S1 (ar c j) (upd (S1.2.1 (ar c j)) (cnt V c) (S1.1 3))).2.1 (ar c i) = S1.2.1 (ar c i) from up_ne na, c2.2.1 _ (by simp)]
      exact h.vs i (by omega)
