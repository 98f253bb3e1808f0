/-! since, holding -/
theorem vStand_t {V : VW} {k : Nat} {d : Int32} : vStand V k d = true ↔ V.ra k ≠ -1 ∧ ¬ d < V.ra k ∧ (V.sk k = -1 ∨ ¬ V.sk k ≤ d) := by
  unfold vStand
  simp only [Bool.and_eq_true, Bool.or_eq_true, Bool.not_eq_true', beq_eq_false_iff_ne, beq_iff_eq, decide_eq_false_iff_not, ne_eq, and_assoc]
def okD (V : VW) (p : List Nat) (k s : Nat) (D : Int32) : Prop := inR D (V.td + 1) = true ∧ vWith V k s = true ∧ vStand V k D = true ∧ nbA V p k s D = true
def sP (C ok : Int32 → Prop) (b : Int32) : Prop := (b = -1 ∧ ∀ D, C D → ¬ ok D) ∨ (C b ∧ ok b ∧ ∀ D, C D → ok D → ¬ D < b)
theorem sP_un {C ok : Int32 → Prop} {a b : Int32} (h : sP C ok a) (h' : sP C ok b) : a = b := by
  rcases h with ⟨e, h⟩ | ⟨h1, h2, h3⟩
  · rcases h' with ⟨e', _⟩ | ⟨h1', h2', _⟩
    · rw [e, e']
    · exact absurd h2' (h b h1')
  · rcases h' with ⟨_, h'⟩ | ⟨h1', h2', h3'⟩
    · exact absurd h2 (h' a h1)
    · have a1 := h3 b h1' h2'
      have a2 := h3' a h1 h2
      rw [Int32.lt_iff_toInt_lt] at a1 a2
      exact Int32.toInt_inj.mp (by omega)
theorem m_inChain {W : WW} {M : MS} (hw : WOK W) (hR : tR W.V (M.2 0)) (h21 : M.1 21 = -1) (h22 : M.1 22 = -1) {k i0 s : Nat} (hk : k < W.V.n) (hs0 : W.L = W.L.take i0 ++ k :: W.L.drop (i0 + 1)) (hp : k ∉ W.L.take i0) (hr : k ∉ W.L.drop (i0 + 1)) (hs : s < 22) (D : Int32) : ∃ (b : Bool) (M' : MS), f_X12_isInChain M (nI k) (nI s) D = some (b, M') ∧ fI [20] [18, 19] M M' ∧ (b = true ↔ okD W.V (W.L.take i0) k s D) := by
  have h60 := hw.V.n
  have htd := hw.V.td
  unfold f_X12_isInChain okD
  rw [chk_c4, m_A4 hR, isIn_n W.V.td (by omega) rfl, bp_some]
  cases c : inR D (W.V.td + 1) with
  | false => exact ⟨false, M, rfl, fI_rf, ⟨fun h => by cases h, fun h => by cases h.1⟩⟩
  | true =>
    obtain ⟨M', g1, g2, g3⟩ := m_ch hw hR h21 h22 (d := D) (hw.V.ev k hk) hs
    have o1 := ch_cOK hw (e := W.V.ev k) (s := s) (d := D)
    rw [if_pos rfl, m_o0 hw.V hR hk, bp_some, g1, bp_some, m_linked hw.V o1.m o1.le g2 (by omega), bp_some]
    refine ⟨_, M', rfl, g3, ?_⟩
    rw [decide_eq_true_eq, in_ch hs0 hp hr]
    exact ⟨fun h => ⟨rfl, h⟩, fun h => h.2⟩
theorem m_since1 {W : WW} {M0 : MS} (hw : WOK W) (hR0 : tR W.V (M0.2 0)) (h21 : M0.1 21 = -1) (h22 : M0.1 22 = -1) {k i0 s : Nat} (hk : k < W.V.n) (hs0 : W.L = W.L.take i0 ++ k :: W.L.drop (i0 + 1)) (hp : k ∉ W.L.take i0) (hr : k ∉ W.L.drop (i0 + 1)) (hs : s < 22) {j : Nat} (hj : j < W.V.n) {M : MS} {b : Int32} (C : Int32 → Prop) (hf : fI [20] [18, 19] M0 M) (hb : sP C (okD W.V (W.L.take i0) k s) b) {kk0 : MS → Int32 → Option (Int32 × MS)} {Q : Option (Int32 × MS) → Prop} (hQ : ∀ M' b', fI [20] [18, 19] M0 M' → sP (fun D => C D ∨ D = W.V.ra j ∨ D = W.V.sk j) (okD W.V (W.L.take i0) k s) b' → Q (kk0 M' b')) : Q (L_X12_since_38 (nI k) (nI s) (nI j) kk0 FU M b 9) := by
  unfold L_X12_since_38
  refine lq3 (Q := Q) 11 (fun w M1 x => 9 ≤ w ∧ fI [20] [18, 19] M0 M1 ∧ sP (fun D => C D ∨ (9 < w ∧ D = W.V.ra j) ∨ (10 < w ∧ D = W.V.sk j)) (okD W.V (W.L.take i0) k s) x) ?_ 9 rfl (by omega) (FU_gt (by omega)) ⟨by omega, hf, ?_⟩
  · rintro w M1 x kk hwle ⟨h9, hf1, hx⟩ hrc
    have hR1 : tR W.V (M1.2 0) := by rw [hf1.2 0 (by decide)]; exact hR0
    by_cases c : w < 11
    · have hof : ∃ D, f_X12_of M1 (nI j) (nI w) = some D ∧ ((w = 9 ∧ D = W.V.ra j) ∨ (w = 10 ∧ D = W.V.sk j)) := by
        have hc : w = 9 ∨ w = 10 := by omega
        rcases hc with rfl | rfl
        · exact ⟨_, m_o9 hw.V hR1 hj, Or.inl ⟨rfl, rfl⟩⟩
        · exact ⟨_, m_o10 hw.V hR1 hj, Or.inr ⟨rfl, rfl⟩⟩
      obtain ⟨D, e1, e2⟩ := hof
      have hC' : ∀ D', (C D' ∨ (9 < w + 1 ∧ D' = W.V.ra j) ∨ (10 < w + 1 ∧ D' = W.V.sk j)) ↔ ((C D' ∨ (9 < w ∧ D' = W.V.ra j) ∨ (10 < w ∧ D' = W.V.sk j)) ∨ D' = D) := by
        intro D'
        rcases e2 with ⟨rfl, rfl⟩ | ⟨rfl, rfl⟩
        · constructor
          · rintro (h | h | h)
            · exact Or.inl (Or.inl h)
            · exact Or.inr h.2
            · omega
          · rintro ((h | h | h) | h)
            · exact Or.inl h
            · omega
            · omega
            · exact Or.inr (Or.inl ⟨by omega, h⟩)
        · constructor
          · rintro (h | h | h)
            · exact Or.inl (Or.inl h)
            · exact Or.inl (Or.inr (Or.inl ⟨by omega, h.2⟩))
            · exact Or.inr h.2
          · rintro ((h | h | h) | h)
            · exact Or.inl h
            · exact Or.inr (Or.inl ⟨by omega, h.2⟩)
            · omega
            · exact Or.inr (Or.inr ⟨by omega, h⟩)
      have hrc := fun a b' h1 h2 => hrc a b' c ⟨by omega, h1, h2⟩
      simp only [hC'] at hrc
      generalize (fun D' => C D' ∨ (9 < w ∧ D' = W.V.ra j) ∨ (10 < w ∧ D' = W.V.sk j)) = C2 at hx
      rw [if_neg (fun h => by rw [show (10 : Int32) = nI 10 from rfl, nI_ltI (by omega) (by omega)] at h; omega), e1, bp_some]
      sorry
    · have : w = 11 := by omega
      subst this
      rw [if_pos (by decide)]
      refine hQ M1 x hf1 ?_
      have : (fun D => C D ∨ D = W.V.ra j ∨ D = W.V.sk j) = (fun D => C D ∨ (9 < 11 ∧ D = W.V.ra j) ∨ (10 < 11 ∧ D = W.V.sk j)) := by
        funext D; simp
      rw [this]; exact hx
  · have : (fun D => C D ∨ (9 < 9 ∧ D = W.V.ra j) ∨ (10 < 9 ∧ D = W.V.sk j)) = C := by
      funext D; simp
    rw [this]; exact hb
