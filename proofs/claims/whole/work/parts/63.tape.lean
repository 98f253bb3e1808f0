/-! reading the tape: signs, digits, numbers -/
def rdS (bb : Nat → Nat) (n p : Nat) (S : CS) : Prop := (S.1 1 = nI n) ∧ (S.1 2 = nI p) ∧ (∀ i, i < n → S.2.1 2 i = nI (bb i))
theorem rdS.l {bb : Nat → Nat} {n p : Nat} {S : CS} (h : rdS bb n p S) : S.1 1 = nI n := h.1
theorem rdS.p {bb : Nat → Nat} {n p : Nat} {S : CS} (h : rdS bb n p S) : S.1 2 = nI p := h.2.1
theorem rdS.b {bb : Nat → Nat} {n p : Nat} {S : CS} (h : rdS bb n p S) : ∀ i, i < n → S.2.1 2 i = nI (bb i) := h.2.2
def rdM (bb : Nat → Nat) (n p : Nat) (M : MS) : Prop := (M.1 5 = nI n) ∧ (M.1 6 = nI p) ∧ (∀ i, i < n → M.2 4 i &&& 255 = nI (bb i))
theorem rdM.l {bb : Nat → Nat} {n p : Nat} {M : MS} (h : rdM bb n p M) : M.1 5 = nI n := h.1
theorem rdM.p {bb : Nat → Nat} {n p : Nat} {M : MS} (h : rdM bb n p M) : M.1 6 = nI p := h.2.1
theorem rdM.b {bb : Nat → Nat} {n p : Nat} {M : MS} (h : rdM bb n p M) : ∀ i, i < n → M.2 4 i &&& 255 = nI (bb i) := h.2.2
def bbO (bb : Nat → Nat) (n : Nat) : Prop := (n ≤ 600) ∧ (∀ i, i < n → bb i < 256)
theorem bbO.n {bb : Nat → Nat} {n : Nat} (h : bbO bb n) : n ≤ 600 := h.1
theorem bbO.b {bb : Nat → Nat} {n : Nat} (h : bbO bb n) : ∀ i, i < n → bb i < 256 := h.2
def sg (bb : Nat → Nat) (n p : Nat) : Int32 := if p < n then nI (bb p) else -1
def isD (bb : Nat → Nat) (n p : Nat) : Bool := decide (p < n ∧ 48 ≤ bb p ∧ bb p ≤ 57)
theorem c_peek {bb : Nat → Nat} {n p : Nat} {S : CS} (ho : bbO bb n) (h : rdS bb n p S) (hp : p ≤ n) : f_X10_peek S = some (sg bb n p) := by
  have := ho.n
  unfold f_X10_peek sg
  rw [h.l, h.p]
  by_cases c : p < n
  · rw [if_neg (fun z => by rw [nI_leI (by omega) (by omega)] at z; omega), chk_nI (by omega) (by decide), nI_clamp (by omega), h.b p c, if_pos c]
  · rw [if_pos ((nI_leI (by omega) (by omega)).mpr (by omega)), if_neg c]
theorem m_here {bb : Nat → Nat} {n p : Nat} {M : MS} (ho : bbO bb n) (h : rdM bb n p M) (hp : p ≤ n) : f_X12_here M = some (sg bb n p) := by
  have := ho.n
  unfold f_X12_here sg
  rw [h.l, h.p]
  by_cases c : p < n
  · rw [if_neg (fun z => by rw [nI_leI (by omega) (by omega)] at z; omega), chk_nI (by omega) (by decide), nI_clamp (by omega), h.b p c, if_pos c]
  · rw [if_pos ((nI_leI (by omega) (by omega)).mpr (by omega)), if_neg c]
theorem sg_fig {bb : Nat → Nat} {n p : Nat} (ho : bbO bb n) : (if sg bb n p < 48 then some false else (if 57 < sg bb n p then some false else some true)) = some (isD bb n p) := by
  unfold sg isD
  by_cases c : p < n
  · have hb := ho.b p c
    rw [if_pos c, show (48 : Int32) = nI 48 from rfl, show (57 : Int32) = nI 57 from rfl]
    by_cases c1 : bb p < 48
    · rw [if_pos ((nI_ltI (by omega) (by omega)).mpr c1), decide_eq_false (by omega)]
    · rw [if_neg (fun z => c1 ((nI_ltI (by omega) (by omega)).mp z))]
      by_cases c2 : 57 < bb p
      · rw [if_pos ((nI_ltI (by omega) (by omega)).mpr c2), decide_eq_false (by omega)]
      · rw [if_neg (fun z => c2 ((nI_ltI (by omega) (by omega)).mp z)), decide_eq_true ⟨c, by omega, by omega⟩]
  · rw [if_neg c, if_pos (by decide), decide_eq_false (fun z => c z.1)]
theorem c_dig {bb : Nat → Nat} {n p : Nat} {S : CS} (ho : bbO bb n) (h : rdS bb n p S) (hp : p ≤ n) : f_X10_isDigitHere S = some (isD bb n p) := by
  unfold f_X10_isDigitHere
  rw [c_peek ho h hp, bp_some, sg_fig ho]
theorem m_fig {bb : Nat → Nat} {n p : Nat} (ho : bbO bb n) : f_X12_isFigure (sg bb n p) = some (isD bb n p) := sg_fig ho
def dgR (bb : Nat → Nat) (n : Nat) : Nat → Nat → Nat → Nat × Nat
  | 0, p, v => (p, v)
  | m + 1, p, v => if isD bb n p = true then dgR bb n m (p + 1) (v * 10 + (bb p - 48)) else (p, v)
theorem dgR_b {bb : Nat → Nat} {n : Nat} : ∀ (m p v k : Nat), p ≤ n → v < 10 ^ k → p ≤ (dgR bb n m p v).1 ∧ (dgR bb n m p v).1 ≤ n ∧ (dgR bb n m p v).1 ≤ p + m ∧ (dgR bb n m p v).2 < 10 ^ (k + m) := by
  intro m
  induction m with
  | zero => intro p v k hp hv; exact ⟨Nat.le_refl _, hp, Nat.le_refl _, hv⟩
  | succ m ih =>
    intro p v k hp hv
    unfold dgR
    by_cases c : isD bb n p = true
    · rw [if_pos c]
      have hc := of_decide_eq_true c
      have := ih (p + 1) (v * 10 + (bb p - 48)) (k + 1) (by omega) (by rw [Nat.pow_succ]; omega)
      rw [show k + 1 + m = k + (m + 1) by omega] at this
      exact ⟨by omega, by omega, by omega, this.2.2.2⟩
    · rw [if_neg c]
      refine ⟨Nat.le_refl _, hp, by omega, Nat.lt_of_lt_of_le hv (Nat.pow_le_pow_right (by decide) (by omega))⟩
def dgO (bb : Nat → Nat) (n p : Nat) : Bool := decide (p < (dgR bb n 7 p 0).1 ∧ isD bb n (dgR bb n 7 p 0).1 = false)
theorem dg7 {bb : Nat → Nat} {n p : Nat} (hp : p ≤ n) : p ≤ (dgR bb n 7 p 0).1 ∧ (dgR bb n 7 p 0).1 ≤ n ∧ (dgR bb n 7 p 0).2 < 10000000 := by
  have := dgR_b (bb := bb) (n := n) 7 p 0 0 hp (by decide)
  exact ⟨this.1, this.2.1, this.2.2.2⟩
theorem rdS_gI {bb : Nat → Nat} {n p p' : Nat} {S S' : CS} {ks ka : List Nat} (h : rdS bb n p S) (hg : gI ks ka S S') (h1 : 1 ∉ ks) (h2 : 2 ∉ ka) (hp : S'.1 2 = nI p') : rdS bb n p' S' := ⟨by rw [hg.1 1 h1]; exact h.l, hp, by rw [hg.2.1 2 h2]; exact h.b⟩
theorem rdM_fI {bb : Nat → Nat} {n p p' : Nat} {M M' : MS} {ks ka : List Nat} (h : rdM bb n p M) (hg : fI ks ka M M') (h1 : 5 ∉ ks) (h2 : 4 ∉ ka) (hp : M'.1 6 = nI p') : rdM bb n p' M' := ⟨by rw [hg.1 5 h1]; exact h.l, hp, by rw [hg.2 4 h2]; exact h.b⟩
theorem c_digits {bb : Nat → Nat} {n p : Nat} {S : CS} (ho : bbO bb n) (h : rdS bb n p S) (hp : p ≤ n) : ∃ S', f_X10_readDigits S = some (dgO bb n p, S') ∧ gI [2, 3, 5] [] S S' ∧ rdS bb n (dgR bb n 7 p 0).1 S' ∧ (dgO bb n p = true → S'.1 3 = nI (dgR bb n 7 p 0).2) ∧ S'.1 5 = (if dgO bb n p = true then S.1 5 else nI (dgR bb n 7 p 0).1) := by
  have hn := ho.n
  unfold f_X10_readDigits L_X10_readDigits_7
  rw [lt_eq]
  refine lg2 (Q := fun o => ∃ S', o = some (dgO bb n p, S') ∧ gI [2, 3, 5] [] S S' ∧ rdS bb n (dgR bb n 7 p 0).1 S' ∧ (dgO bb n p = true → S'.1 3 = nI (dgR bb n 7 p 0).2) ∧ S'.1 5 = (if dgO bb n p = true then S.1 5 else nI (dgR bb n 7 p 0).1)) (fun m S1 x => ∃ c v, c + m = 7 ∧ x = nI c ∧ p + c ≤ n ∧ gI [2, 3] [] S S1 ∧ S1.1 2 = nI (p + c) ∧ S1.1 3 = nI v ∧ dgR bb n m (p + c) v = dgR bb n 7 p 0) ?_ FU 7 (ci S 3 0) 0 (FU_gt (by omega)) ⟨0, 0, rfl, rfl, hp, gI_ci gI_rf (by decide), h.p, rfl, rfl⟩
  rintro m S1 x kk ⟨c, v, hcm, rfl, hpc, hg, h2, h3, hd⟩ hr
  have hrd : rdS bb n (p + c) S1 := rdS_gI h hg (by decide) (by decide) h2
  have h5 : S1.1 5 = S.1 5 := hg.1 5 (by decide)
  have fin : dgR bb n 7 p 0 = (p + c, v) → ∃ S', (jn0 (bw (f_X10_failHere S1) (fun x17 S18 => if x17 = true then some (true, S18) else some (false, S18))) (fun k19 => if nI c ≤ 0 then k19 else bp (f_X10_isDigitHere S1) (fun x21 => if x21 = true then k19 else some (true, S1)))) = some (dgO bb n p, S') ∧ gI [2, 3, 5] [] S S' ∧ rdS bb n (dgR bb n 7 p 0).1 S' ∧ (dgO bb n p = true → S'.1 3 = nI (dgR bb n 7 p 0).2) ∧ S'.1 5 = (if dgO bb n p = true then S.1 5 else nI (dgR bb n 7 p 0).1) := by
    intro he
    have hO : dgO bb n p = decide (p < p + c ∧ isD bb n (p + c) = false) := by unfold dgO; rw [he]
    have hg5 : gI [2, 3, 5] [] S S1 := gI_tr gI_rf hg (by decide) (by decide)
    unfold f_X10_failHere jn0
    rw [lt_eq, bw_some, if_neg (show ¬ false = true by decide), c_dig ho hrd hpc]
    dsimp only
    rw [bp_some, he, h2]
    have bad : dgO bb n p = false → ∃ S', some (false, ci S1 5 (nI (p + c))) = some (dgO bb n p, S') ∧ gI [2, 3, 5] [] S S' ∧ rdS bb n (p + c, v).1 S' ∧ (dgO bb n p = true → S'.1 3 = nI (p + c, v).2) ∧ S'.1 5 = (if dgO bb n p = true then S.1 5 else nI (p + c, v).1) := by
      intro hz
      rw [hz]
      exact ⟨_, rfl, gI_ci hg5 (by decide), ⟨hrd.l, hrd.p, hrd.b⟩, fun z => (by cases z), rfl⟩
    by_cases c0 : c = 0
    · rw [if_pos (show nI c ≤ 0 by rw [c0]; decide)]
      exact bad (by rw [hO]; exact decide_eq_false (by omega))
    · rw [if_neg (nI_nle (by omega) (by omega))]
      cases hdd : isD bb n (p + c) with
      | true =>
        rw [if_pos rfl]
        exact bad (by rw [hO, hdd]; exact decide_eq_false (fun z => by cases z.2))
      | false =>
        rw [if_neg (by decide)]
        have : dgO bb n p = true := by rw [hO, hdd]; exact decide_eq_true ⟨by omega, rfl⟩
        rw [this]
        exact ⟨S1, rfl, hg5, hrd, fun _ => h3, h5⟩
  cases m with
  | zero =>
    have : c = 7 := by omega
    subst this
    rw [if_pos (by decide)]
    exact fin hd.symm
  | succ m =>
    rw [if_neg (fun z => by rw [show (7 : Int32) = nI 7 from rfl, nI_leI (by omega) (by omega)] at z; omega), c_dig ho hrd hpc, bp_some]
    have hd' : dgR bb n (m + 1) (p + c) v = if isD bb n (p + c) = true then dgR bb n m (p + c + 1) (v * 10 + (bb (p + c) - 48)) else (p + c, v) := rfl
    rw [hd'] at hd
    by_cases cd : isD bb n (p + c) = true
    · have hc := of_decide_eq_true cd
      rw [if_pos cd] at hd ⊢
      have hsg : sg bb n (p + c) = nI (bb (p + c)) := if_pos hc.1
      rw [c_peek ho hrd hpc, bp_some, hsg, h3]
      simp only [lt_eq, nI_1]
      refine hr m _ _ (by omega) ⟨c + 1, v * 10 + (bb (p + c) - 48), by omega, rfl, by omega, gI_ci (gI_ci hg (by decide)) (by decide), ?_, ?_, hd⟩
      · show S1.1 2 + 1 = _
        rw [h2, nI_1]; rfl
      · show nI v * 10 + (nI (bb (p + c)) - 48) = _
        rw [show (10 : Int32) = nI 10 from rfl, show (48 : Int32) = nI 48 from rfl, pk_mul, pk_sub (by omega), nI_add]
    · rw [if_neg cd] at hd ⊢
      exact fin hd.symm
theorem m_digits {bb : Nat → Nat} {n p : Nat} {M : MS} (ho : bbO bb n) (h : rdM bb n p M) (hp : p ≤ n) : ∃ M', f_X12_readDigits M = some (dgO bb n p, M') ∧ fI [6, 7, 8] [] M M' ∧ rdM bb n (dgR bb n 7 p 0).1 M' ∧ (dgO bb n p = true → M'.1 8 = nI (dgR bb n 7 p 0).2) ∧ M'.1 7 = (if dgO bb n p = true then M.1 7 else nI (dgR bb n 7 p 0).1) := by
  have hn := ho.n
  unfold f_X12_readDigits
  rw [m_here ho h hp, bp_some, m_fig ho, bp_some]
  by_cases c0 : isD bb n p = true
  · rw [if_pos c0, lt_eq, lt_eq, h.p]
    unfold L_X12_readDigits_29
    refine lg1 (Q := fun o => ∃ M', o = some (dgO bb n p, M') ∧ fI [6, 7, 8] [] M M' ∧ rdM bb n (dgR bb n 7 p 0).1 M' ∧ (dgO bb n p = true → M'.1 8 = nI (dgR bb n 7 p 0).2) ∧ M'.1 7 = (if dgO bb n p = true then M.1 7 else nI (dgR bb n 7 p 0).1)) (fun m M1 => ∃ c v, c + m = 7 ∧ p + c ≤ n ∧ fI [6, 8] [] M M1 ∧ M1.1 6 = nI (p + c) ∧ M1.1 8 = nI v ∧ dgR bb n m (p + c) v = dgR bb n 7 p 0 ∧ (c = 0 → isD bb n p = true)) ?_ FU 7 (si M 8 0) (FU_gt (by omega)) ⟨0, 0, rfl, hp, fI_si fI_rf (by decide), h.p, rfl, rfl, fun _ => c0⟩
    rintro m M1 kk ⟨c, v, hcm, hpc, hg, h2, h3, hd, hc0⟩ hr
    have hrd : rdM bb n (p + c) M1 := rdM_fI h hg (by decide) (by decide) h2
    have h7 : M1.1 7 = M.1 7 := hg.1 7 (by decide)
    have fin : dgR bb n 7 p 0 = (p + c, v) → c ≠ 0 → ∃ M', (bp (f_X12_here M1) (fun x17 => bp (f_X12_isFigure x17) (fun x18 => if x18 = true then bw (f_X12_fails M1 (M1.1 6)) (fun x19 S20 => if x19 = true then some (true, S20) else some (false, S20)) else some (true, M1)))) = some (dgO bb n p, M') ∧ fI [6, 7, 8] [] M M' ∧ rdM bb n (dgR bb n 7 p 0).1 M' ∧ (dgO bb n p = true → M'.1 8 = nI (dgR bb n 7 p 0).2) ∧ M'.1 7 = (if dgO bb n p = true then M.1 7 else nI (dgR bb n 7 p 0).1) := by
      intro he hcne
      have hO : dgO bb n p = decide (p < p + c ∧ isD bb n (p + c) = false) := by unfold dgO; rw [he]
      have hg5 : fI [6, 7, 8] [] M M1 := fI_tr fI_rf hg (by decide) (by decide)
      rw [m_here ho hrd hpc, bp_some, m_fig ho, bp_some, he]
      unfold f_X12_fails
      rw [lt_eq, bw_some, if_neg (show ¬ false = true by decide), h2]
      cases hdd : isD bb n (p + c) with
      | true =>
        have hz : dgO bb n p = false := by rw [hO, hdd]; exact decide_eq_false (fun z => by cases z.2)
        rw [if_pos rfl, hz]
        exact ⟨_, rfl, fI_si hg5 (by decide), ⟨hrd.l, hrd.p, hrd.b⟩, fun z => (by cases z), rfl⟩
      | false =>
        rw [if_neg (by decide)]
        have : dgO bb n p = true := by rw [hO, hdd]; exact decide_eq_true ⟨by omega, rfl⟩
        rw [this]
        exact ⟨M1, rfl, hg5, hrd, fun _ => h3, h7⟩
    rw [m_here ho hrd hpc, bp_some, m_fig ho, bp_some, h2, show nI (p + c) - nI p = nI c by rw [pk_sub (by omega), show p + c - p = c by omega]]
    cases m with
    | zero =>
      have : c = 7 := by omega
      subst this
      rw [if_pos (show (7 : Int32) ≤ nI 7 by decide)]
      have := fin hd.symm (by omega)
      by_cases cd : isD bb n (p + 7) = true
      · rw [if_pos cd]; exact this
      · rw [if_neg cd]; exact this
    | succ m =>
      have hd' : dgR bb n (m + 1) (p + c) v = if isD bb n (p + c) = true then dgR bb n m (p + c + 1) (v * 10 + (bb (p + c) - 48)) else (p + c, v) := rfl
      rw [hd'] at hd
      by_cases cd : isD bb n (p + c) = true
      · have hc := of_decide_eq_true cd
        rw [if_pos cd] at hd ⊢
        have hsg : sg bb n (p + c) = nI (bb (p + c)) := if_pos hc.1
        rw [if_neg (fun z => by rw [show (7 : Int32) = nI 7 from rfl, nI_leI (by omega) (by omega)] at z; omega), bp_some, hsg, h3]
        simp only [lt_eq]
        refine hr m _ (by omega) ⟨c + 1, v * 10 + (bb (p + c) - 48), by omega, by omega, fI_si (fI_si hg (by decide)) (by decide), ?_, ?_, hd, fun z => (by omega)⟩
        · show M1.1 6 + 1 = _
          rw [h2, nI_1]; rfl
        · show 10 * nI v + nI (bb (p + c)) - 48 = _
          rw [show (10 : Int32) = nI 10 from rfl, show (48 : Int32) = nI 48 from rfl, pk_mul, nI_add, pk_sub (by omega)]
          congr 1
          omega
      · rw [if_neg cd] at hd ⊢
        have hcne : c ≠ 0 := fun z => cd (by rw [z]; exact hc0 z)
        exact fin hd.symm hcne
  · rw [if_neg c0]
    have he : dgR bb n 7 p 0 = (p, 0) := by unfold dgR; rw [if_neg c0]
    have hz : dgO bb n p = false := by unfold dgO; rw [he]; exact decide_eq_false (fun z => by have := z.1; omega)
    unfold f_X12_fails
    rw [lt_eq, bw_some, hz, he, h.p]
    exact ⟨_, rfl, fI_si fI_rf (by decide), ⟨h.l, h.p, h.b⟩, fun z => (by cases z), rfl⟩
/-- a number, perhaps with its sign: whether it is well, where reading stands, what it is -/
def nmS (bb : Nat → Nat) (n p : Nat) : Nat := if sg bb n p = 45 then p + 1 else p
def nmO (bb : Nat → Nat) (n p : Nat) : Bool := dgO bb n (nmS bb n p)
def nmE (bb : Nat → Nat) (n p : Nat) : Nat := (dgR bb n 7 (nmS bb n p) 0).1
def nmV (bb : Nat → Nat) (n p : Nat) : Int32 := if sg bb n p = 45 then -(nI (dgR bb n 7 (nmS bb n p) 0).2) else nI (dgR bb n 7 (nmS bb n p) 0).2
theorem nm_b {bb : Nat → Nat} {n p : Nat} (hp : p ≤ n) : nmS bb n p ≤ n ∧ p ≤ nmE bb n p ∧ nmE bb n p ≤ n := by
  have h1 : nmS bb n p ≤ n ∧ p ≤ nmS bb n p := by
    unfold nmS
    by_cases c : sg bb n p = 45
    · rw [if_pos c]
      have : p < n := by
        by_cases z : p < n
        · exact z
        · unfold sg at c; rw [if_neg z] at c; exact absurd c (by decide)
      omega
    · rw [if_neg c]; omega
  have := dg7 (bb := bb) h1.1
  unfold nmE
  omega
theorem c_number {bb : Nat → Nat} {n p : Nat} {S : CS} (ho : bbO bb n) (h : rdS bb n p S) (hp : p ≤ n) : ∃ S', f_X10_readNumber S = some (nmO bb n p, S') ∧ gI [2, 3, 4, 5] [] S S' ∧ rdS bb n (nmE bb n p) S' ∧ (nmO bb n p = true → S'.1 3 = nmV bb n p) ∧ S'.1 4 = nI p ∧ S'.1 5 = (if nmO bb n p = true then S.1 5 else nI (nmE bb n p)) := by
  have hb := nm_b (bb := bb) hp
  unfold f_X10_readNumber
  have h1 : rdS bb n p (ci S 4 (S.1 2)) := ⟨h.l, h.p, h.b⟩
  rw [lt_eq, c_peek ho h1 hp, bp_some]
  simp only [jn1]
  unfold nmO nmE nmV
  by_cases c : sg bb n p = 45
  · have hs : nmS bb n p = p + 1 := if_pos c
    rw [if_pos c, if_neg (by decide), if_pos c, lt_eq]
    rw [hs] at hb ⊢
    have e2 : (ci (ci S 4 (S.1 2)) 2 ((ci S 4 (S.1 2)).1 2 + 1)).1 2 = nI (p + 1) := by show S.1 2 + 1 = _; rw [h.p, nI_1]
    have h2 : rdS bb n (p + 1) (ci (ci S 4 (S.1 2)) 2 ((ci S 4 (S.1 2)).1 2 + 1)) := ⟨h.l, e2, h.b⟩
    obtain ⟨S', d1, d2, d3, d4, d5⟩ := c_digits ho h2 hb.1
    have hg : gI [2, 3, 4, 5] [] S S' := gI_tr (gI_ci (gI_ci gI_rf (by decide)) (by decide)) d2 (by decide) (by decide)
    have e4 : S'.1 4 = nI p := by rw [d2.1 4 (by decide)]; exact h.p
    rw [d1, bw_some]
    cases hO : dgO bb n (p + 1) with
    | true =>
      rw [hO] at d4 d5
      rw [if_pos rfl, if_neg (by decide), lt_eq]
      exact ⟨_, rfl, gI_ci hg (by decide), ⟨d3.l, d3.p, d3.b⟩, fun _ => (by show -(S'.1 3) = _; rw [d4 rfl]), e4, d5⟩
    | false =>
      rw [hO] at d5
      rw [if_neg (by decide)]
      exact ⟨S', rfl, hg, d3, fun z => (by cases z), e4, d5⟩
  · have hs : nmS bb n p = p := if_neg c
    rw [if_neg c, if_pos trivial, if_neg c]
    rw [hs] at hb ⊢
    obtain ⟨S', d1, d2, d3, d4, d5⟩ := c_digits ho h1 hp
    have hg : gI [2, 3, 4, 5] [] S S' := gI_tr (gI_ci gI_rf (by decide)) d2 (by decide) (by decide)
    have e4 : S'.1 4 = nI p := by rw [d2.1 4 (by decide)]; exact h.p
    rw [d1, bw_some]
    cases hO : dgO bb n p with
    | true =>
      rw [hO] at d4 d5
      rw [if_pos rfl, if_pos trivial]
      exact ⟨S', rfl, hg, d3, fun _ => d4 rfl, e4, d5⟩
    | false =>
      rw [hO] at d5
      rw [if_neg (by decide)]
      exact ⟨S', rfl, hg, d3, fun z => (by cases z), e4, d5⟩
/-- a sign is passed -/
theorem c_pass {bb : Nat → Nat} {n p : Nat} {S : CS} (ho : bbO bb n) (h : rdS bb n p S) (hp : p ≤ n) (c : Nat) (hc : c < 256) : ∃ S', f_X10_pass S (nI c) = some (decide (sg bb n p = nI c), S') ∧ gI [2, 5] [] S S' ∧ rdS bb n (if sg bb n p = nI c then p + 1 else p) S' ∧ S'.1 5 = (if sg bb n p = nI c then S.1 5 else nI p) := by
  unfold f_X10_pass
  rw [c_peek ho h hp, bp_some]
  by_cases z : sg bb n p = nI c
  · rw [if_pos z, if_pos z, if_pos z, decide_eq_true z, lt_eq]
    exact ⟨_, rfl, gI_ci gI_rf (by decide), ⟨h.l, by show S.1 2 + 1 = _; rw [h.p, nI_1], h.b⟩, rfl⟩
  · unfold f_X10_failHere
    rw [if_neg z, if_neg z, if_neg z, decide_eq_false z, lt_eq, bw_some, h.p]
    exact ⟨_, rfl, gI_ci gI_rf (by decide), ⟨h.l, h.p, h.b⟩, rfl⟩
theorem m_takes {bb : Nat → Nat} {n p : Nat} {M : MS} (ho : bbO bb n) (h : rdM bb n p M) (hp : p ≤ n) (c : Nat) (hc : c < 256) : ∃ M', f_X12_takes M (nI c) = some (decide (sg bb n p = nI c), M') ∧ fI [6, 7] [] M M' ∧ rdM bb n (if sg bb n p = nI c then p + 1 else p) M' ∧ M'.1 7 = (if sg bb n p = nI c then M.1 7 else nI p) := by
  unfold f_X12_takes
  rw [m_here ho h hp, bp_some]
  by_cases z : sg bb n p = nI c
  · rw [if_pos z, if_pos z, if_pos z, decide_eq_true z, lt_eq]
    exact ⟨_, rfl, fI_si fI_rf (by decide), ⟨h.l, by show M.1 6 + 1 = _; rw [h.p, nI_1], h.b⟩, rfl⟩
  · unfold f_X12_fails
    rw [if_neg z, if_neg z, if_neg z, decide_eq_false z, lt_eq, bw_some, h.p]
    exact ⟨_, rfl, fI_si fI_rf (by decide), ⟨h.l, h.p, h.b⟩, rfl⟩
theorem sg_lt {bb : Nat → Nat} {n p c : Nat} (h : sg bb n p = nI c) (hc : c < 256) : p < n := by
  by_cases z : p < n
  · exact z
  · unfold sg at h; rw [if_neg z] at h; exact absurd h.symm (nI_nm1 (by omega))
/-- where a letter stands in a row of letters -/
theorem ix_eq {b e : Nat} (hb : b < 256) (he : e < 128) : nI e = (nI b).toInt8.toInt32 ↔ e = b := by
  constructor
  · intro h
    have := congrArg Int32.toInt h
    rw [nI_toInt (by omega), Int8.toInt_toInt32, Int32.toInt_toInt8, nI_toInt (by omega), Int.bmod_def] at this
    split at this <;> omega
  · rintro rfl
    apply Int32.toInt_inj.mp
    rw [nI_toInt (by omega), Int8.toInt_toInt32, Int32.toInt_toInt8, nI_toInt (by omega), Int.bmod_def]
    split <;> omega
theorem ch_sg {bb : Nat → Nat} {n p : Nat} (ho : bbO bb n) : ((sg bb n p).toUInt32 % 65536).toInt32 = (if p < n then nI (bb p) else nI 65535) := by
  unfold sg
  by_cases c : p < n
  · rw [if_pos c, if_pos c, pk_char, pk_tn (by have := ho.b p c; omega), Nat.mod_eq_of_lt (by have := ho.b p c; omega)]
  · rw [if_neg c, if_neg c, pk_char]
    decide
