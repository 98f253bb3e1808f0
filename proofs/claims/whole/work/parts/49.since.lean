/-! since, holding -/
theorem lo3_s {α β γ ρ : Type} (body : (α → β → γ → Option ρ) → α → β → γ → Option ρ) (n : Nat) : lo3 body (n + 1) = body (lo3 body n) := rfl
theorem vStand_t {V : VW} {k : Nat} {d : Int32} : vStand V k d = true ↔ V.ra k ≠ -1 ∧ ¬ d < V.ra k ∧ (V.sk k = -1 ∨ ¬ V.sk k ≤ d) := by
  unfold vStand
  simp only [Bool.and_eq_true, Bool.or_eq_true, Bool.not_eq_true', beq_eq_false_iff_ne, beq_iff_eq, decide_eq_false_iff_not, ne_eq, and_assoc]
def okD (V : VW) (p : List Nat) (k s : Nat) (D : Int32) : Prop := inR D (V.td + 1) = true ∧ vWith V k s = true ∧ vStand V k D = true ∧ nbA V p k s D = true
def sP (C ok : Int32 → Prop) (b : Int32) : Prop := (b = -1 ∧ ∀ D, C D → ¬ ok D) ∨ (C b ∧ ok b ∧ ∀ D, C D → ok D → ¬ D < b)
theorem sP_un {C ok : Int32 → Prop} {a b : Int32} (h : sP C ok a) (h' : sP C ok b) : a = b := by
  rcases h with ⟨e, h⟩ | ⟨h1, h2, h3⟩
  · rcases h' with ⟨e', _⟩ | ⟨h1', h2', _⟩
    · rw [e, e']
    · exact absurd h2' (h b h1')
  · rcases h' with ⟨_, h'⟩ | ⟨h1', h2', h3'⟩
    · exact absurd h2 (h' a h1)
    · have a1 := h3 b h1' h2'
      have a2 := h3' a h1 h2
      rw [Int32.lt_iff_toInt_lt] at a1 a2
      exact Int32.toInt_inj.mp (by omega)
theorem okD_nn {V : VW} {p : List Nat} {k s : Nat} (D : Int32) (h : okD V p k s D) : ¬ D = -1 := by
  intro e
  have := h.1
  rw [e] at this
  obtain ⟨h1, _⟩ := of_decide_eq_true this
  have : (-1 : Int32).toInt = -1 := rfl
  omega
theorem sP_upd {C ok : Int32 → Prop} {x D : Int32} (hnn : ∀ D, ok D → ¬ D = -1) (hx : sP C ok x) : ((x = -1 ∨ ¬ x ≤ D) → ok D → sP (fun D' => C D' ∨ D' = D) ok D) ∧ (¬ ok D → sP (fun D' => C D' ∨ D' = D) ok x) ∧ (¬ x = -1 → x ≤ D → sP (fun D' => C D' ∨ D' = D) ok x) := by
  refine ⟨fun h1 h2 => Or.inr ⟨Or.inr rfl, h2, ?_⟩, fun h1 => ?_, fun h1 h2 => ?_⟩
  · rintro D' (h | h) ok' hlt
    · rcases hx with ⟨_, hx⟩ | ⟨_, hx2, hx⟩
      · exact hx D' h ok'
      · rcases h1 with h1 | h1
        · exact hnn x hx2 h1
        · have := hx D' h ok'
          rw [Int32.le_iff_toInt_le] at h1
          rw [Int32.lt_iff_toInt_lt] at this hlt
          omega
    · rw [h, Int32.lt_iff_toInt_lt] at hlt; omega
  · rcases hx with ⟨e, hx⟩ | ⟨hx1, hx2, hx⟩
    · refine Or.inl ⟨e, ?_⟩
      rintro D' (h | h)
      · exact hx D' h
      · rw [h]; exact h1
    · refine Or.inr ⟨Or.inl hx1, hx2, ?_⟩
      rintro D' (h | h) ok'
      · exact hx D' h ok'
      · rw [h] at ok'; exact absurd ok' h1
  · rcases hx with ⟨e, hx⟩ | ⟨hx1, hx2, hx⟩
    · exact absurd e h1
    · refine Or.inr ⟨Or.inl hx1, hx2, ?_⟩
      rintro D' (h | h) ok'
      · exact hx D' h ok'
      · rw [h, Int32.lt_iff_toInt_lt]
        rw [Int32.le_iff_toInt_le] at h2
        omega
theorem m_inChain {W : WW} {M : MS} (hw : WOK W) (hR : tR W.V (M.2 0)) (h21 : M.1 21 = -1) (h22 : M.1 22 = -1) {k i0 s : Nat} (hk : k < W.V.n) (hs0 : W.L = W.L.take i0 ++ k :: W.L.drop (i0 + 1)) (hp : k ∉ W.L.take i0) (hr : k ∉ W.L.drop (i0 + 1)) (hs : s < 22) (D : Int32) : ∃ (b : Bool) (M' : MS), f_X12_isInChain M (nI k) (nI s) D = some (b, M') ∧ fI [20] [18, 19] M M' ∧ (b = true ↔ okD W.V (W.L.take i0) k s D) := by
  have h60 := hw.V.n
  have htd := hw.V.td
  unfold f_X12_isInChain okD
  rw [chk_c4, m_A4 hR, isIn_n W.V.td (by omega) rfl, bp_some]
  cases c : inR D (W.V.td + 1) with
  | false => exact ⟨false, M, rfl, fI_rf, ⟨fun h => (by cases h), fun h => (by cases h.1)⟩⟩
  | true =>
    obtain ⟨M', g1, g2, g3⟩ := m_ch hw hR h21 h22 (d := D) (hw.V.ev k hk) hs
    have o1 := ch_cOK hw (e := W.V.ev k) (s := s) (d := D)
    rw [if_pos rfl, m_o0 hw.V hR hk, bp_some, g1, bp_some, m_linked hw.V o1.m o1.le g2 (by omega), bp_some]
    refine ⟨_, M', rfl, g3, ?_⟩
    rw [decide_eq_true_eq, in_ch hs0 hp hr]
    exact ⟨fun h => ⟨rfl, h⟩, fun h => h.2⟩
theorem m_since1 {W : WW} {M0 : MS} (hw : WOK W) (hR0 : tR W.V (M0.2 0)) (h21 : M0.1 21 = -1) (h22 : M0.1 22 = -1) {k i0 s : Nat} (hk : k < W.V.n) (hs0 : W.L = W.L.take i0 ++ k :: W.L.drop (i0 + 1)) (hp : k ∉ W.L.take i0) (hr : k ∉ W.L.drop (i0 + 1)) (hs : s < 22) {j : Nat} (hj : j < W.V.n) {M : MS} {b : Int32} (C : Int32 → Prop) (hf : fI [20] [18, 19] M0 M) (hb : sP C (okD W.V (W.L.take i0) k s) b) {kk0 : MS → Int32 → Option (Int32 × MS)} {Q : Option (Int32 × MS) → Prop} (hQ : ∀ M' b', fI [20] [18, 19] M0 M' → sP (fun D => C D ∨ D = W.V.ra j ∨ D = W.V.sk j) (okD W.V (W.L.take i0) k s) b' → Q (kk0 M' b')) : Q (L_X12_since_38 (nI k) (nI s) (nI j) kk0 FU M b 9) := by
  unfold L_X12_since_38
  refine lq3 (Q := Q) 11 (fun w M1 x => 9 ≤ w ∧ fI [20] [18, 19] M0 M1 ∧ sP (fun D => C D ∨ (9 < w ∧ D = W.V.ra j) ∨ (10 < w ∧ D = W.V.sk j)) (okD W.V (W.L.take i0) k s) x) ?_ 9 rfl (by omega) (FU_gt (by omega)) ⟨by omega, hf, ?_⟩
  · rintro w M1 x kk hwle ⟨h9, hf1, hx⟩ hrc
    have hR1 : tR W.V (M1.2 0) := by rw [hf1.2 0 (by decide)]; exact hR0
    by_cases c : w < 11
    · have hof : ∃ D, f_X12_of M1 (nI j) (nI w) = some D ∧ ((w = 9 ∧ D = W.V.ra j) ∨ (w = 10 ∧ D = W.V.sk j)) := by
        have hc : w = 9 ∨ w = 10 := by omega
        rcases hc with rfl | rfl
        · exact ⟨_, m_o9 hw.V hR1 hj, Or.inl ⟨rfl, rfl⟩⟩
        · exact ⟨_, m_o10 hw.V hR1 hj, Or.inr ⟨rfl, rfl⟩⟩
      obtain ⟨D, e1, e2⟩ := hof
      have hC' : ∀ D', (C D' ∨ (9 < w + 1 ∧ D' = W.V.ra j) ∨ (10 < w + 1 ∧ D' = W.V.sk j)) ↔ ((C D' ∨ (9 < w ∧ D' = W.V.ra j) ∨ (10 < w ∧ D' = W.V.sk j)) ∨ D' = D) := by
        intro D'
        rcases e2 with ⟨rfl, rfl⟩ | ⟨rfl, rfl⟩
        · constructor
          · rintro (h | h | h)
            · exact Or.inl (Or.inl h)
            · exact Or.inr h.2
            · omega
          · rintro ((h | h | h) | h)
            · exact Or.inl h
            · omega
            · omega
            · exact Or.inr (Or.inl ⟨by omega, h⟩)
        · constructor
          · rintro (h | h | h)
            · exact Or.inl (Or.inl h)
            · exact Or.inl (Or.inr (Or.inl ⟨by omega, h.2⟩))
            · exact Or.inr h.2
          · rintro ((h | h | h) | h)
            · exact Or.inl h
            · exact Or.inr (Or.inl ⟨by omega, h.2⟩)
            · omega
            · exact Or.inr (Or.inr ⟨by omega, h⟩)
      have hrc : ∀ a b', fI [20] [18, 19] M0 a → sP (fun D' => (C D' ∨ (9 < w ∧ D' = W.V.ra j) ∨ (10 < w ∧ D' = W.V.sk j)) ∨ D' = D) (okD W.V (W.L.take i0) k s) b' → Q (kk a b' (nI (w + 1))) := by
        intro a b' h1 h2
        refine hrc a b' c ⟨by omega, h1, ?_⟩
        rw [show (fun D' => C D' ∨ (9 < w + 1 ∧ D' = W.V.ra j) ∨ (10 < w + 1 ∧ D' = W.V.sk j)) = (fun D' => (C D' ∨ (9 < w ∧ D' = W.V.ra j) ∨ (10 < w ∧ D' = W.V.sk j)) ∨ D' = D) from funext (fun D' => propext (hC' D'))]
        exact h2
      obtain ⟨u1, u2, u3⟩ := sP_upd (D := D) okD_nn hx
      obtain ⟨bb, M2, g1, g2, g3⟩ := m_inChain hw hR1 (by rw [hf1.1 21 (by decide)]; exact h21) (by rw [hf1.1 22 (by decide)]; exact h22) hk hs0 hp hr hs D
      have hfr : fI [20] [18, 19] M0 M2 := fI_tr hf1 g2 (by decide) (by decide)
      rw [if_neg (fun h => by rw [show (10 : Int32) = nI 10 from rfl, nI_ltI (by omega) (by omega)] at h; omega), e1, bp_some]
      simp only [jn0, g1, bw_some, lt_eq, nI_1]
      have go : (x = -1 ∨ ¬ x ≤ D) → Q (if bb = true then kk M2 D (nI (w + 1)) else kk M2 x (nI (w + 1))) := by
        intro hor
        by_cases hbb : bb = true
        · rw [if_pos hbb]; exact hrc M2 D hfr (u1 hor (g3.mp hbb))
        · rw [if_neg hbb]; exact hrc M2 x hfr (u2 (fun z => hbb (g3.mpr z)))
      by_cases c1 : x = -1
      · rw [if_pos c1]; exact go (Or.inl c1)
      · rw [if_neg c1]
        by_cases c2 : x ≤ D
        · rw [if_pos c2]; exact hrc M1 x hf1 (u3 c1 c2)
        · rw [if_neg c2]; exact go (Or.inr c2)
    · have : w = 11 := by omega
      subst this
      rw [if_pos (by decide)]
      refine hQ M1 x hf1 ?_
      have : (fun D => C D ∨ D = W.V.ra j ∨ D = W.V.sk j) = (fun D => C D ∨ (9 < 11 ∧ D = W.V.ra j) ∨ (10 < 11 ∧ D = W.V.sk j)) := by
        funext D; simp
      rw [this]; exact hx
  · have : (fun D => C D ∨ (9 < 9 ∧ D = W.V.ra j) ∨ (10 < 9 ∧ D = W.V.sk j)) = C := by
      funext D; simp
    rw [this]; exact hb
theorem m_since {W : WW} {M : MS} (hw : WOK W) (hR : tR W.V (M.2 0)) (h21 : M.1 21 = -1) (h22 : M.1 22 = -1) {k i0 s : Nat} (hk : k < W.V.n) (hs0 : W.L = W.L.take i0 ++ k :: W.L.drop (i0 + 1)) (hp : k ∉ W.L.take i0) (hr : k ∉ W.L.drop (i0 + 1)) (hs : s < 22) : ∃ (b : Int32) (M' : MS), L_X12_since_23 (nI k) (nI s) (fun S32 x33 => some (x33, S32)) FU M (-1) 0 = some (b, M') ∧ fI [20] [18, 19] M M' ∧ sP (fun D => ∃ i, i < W.V.n ∧ (D = W.V.ra i ∨ D = W.V.sk i)) (okD W.V (W.L.take i0) k s) b := by
  have hn := hw.V.n
  unfold L_X12_since_23
  refine lq3 (Q := fun o => ∃ (b : Int32) (M' : MS), o = some (b, M') ∧ fI [20] [18, 19] M M' ∧ sP (fun D => ∃ i, i < W.V.n ∧ (D = W.V.ra i ∨ D = W.V.sk i)) (okD W.V (W.L.take i0) k s) b) W.V.n (fun j M1 x => fI [20] [18, 19] M M1 ∧ sP (fun D => ∃ i, i < j ∧ (D = W.V.ra i ∨ D = W.V.sk i)) (okD W.V (W.L.take i0) k s) x) ?_ 0 rfl (Nat.zero_le _) (FU_gt (by omega)) ⟨fI_rf, Or.inl ⟨rfl, fun D hD => by obtain ⟨i, hi, _⟩ := hD; omega⟩⟩
  rintro j M1 x kk hj ⟨hf, hx⟩ hrc
  have hR1 : tR W.V (M1.2 0) := by rw [hf.2 0 (by decide)]; exact hR
  rw [chk_c3, m_A3 hR1]
  by_cases c : j < W.V.n
  · rw [if_neg (fun h => by rw [nI_leI (by omega) (by omega)] at h; omega)]
    refine m_since1 (Q := fun o => ∃ (b : Int32) (M' : MS), o = some (b, M') ∧ fI [20] [18, 19] M M' ∧ sP (fun D => ∃ i, i < W.V.n ∧ (D = W.V.ra i ∨ D = W.V.sk i)) (okD W.V (W.L.take i0) k s) b) hw hR h21 h22 hk hs0 hp hr hs c _ hf hx ?_
    intro M' b' hf' hb'
    rw [lt_eq, nI_1]
    refine hrc M' b' c ⟨hf', ?_⟩
    rw [show (fun D => ∃ i, i < j + 1 ∧ (D = W.V.ra i ∨ D = W.V.sk i)) = (fun D => (∃ i, i < j ∧ (D = W.V.ra i ∨ D = W.V.sk i)) ∨ D = W.V.ra j ∨ D = W.V.sk j) from funext (fun D => propext ⟨fun h => by
      obtain ⟨i, hi, h⟩ := h
      by_cases z : i = j
      · subst z; exact Or.inr h
      · exact Or.inl ⟨i, by omega, h⟩, fun h => by
      rcases h with ⟨i, hi, h⟩ | h
      · exact ⟨i, by omega, h⟩
      · exact ⟨j, by omega, h⟩⟩)]
    exact hb'
  · have : j = W.V.n := by omega
    subst this
    rw [if_pos ((nI_leI (by omega) (by omega)).mpr (by omega))]
    exact ⟨x, M1, rfl, hf, hx⟩
theorem c_since {W : WW} {S : CS} (hw : WOK W) (hS : tW W S) {k i0 s : Nat} (hk : k < W.V.n) (hs : s < 22) (hi0 : i0 < W.L.length) (he0 : W.L.getD i0 0 = k) (hp : k ∉ W.L.take i0) : ∃ b, f_X1_firstDayInChain S (nI k) (nI s) = some b ∧ sP (fun D => ∃ i, i < W.V.n ∧ (D = W.V.ra i ∨ D = W.V.sk i)) (okD W.V (W.L.take i0) k s) b := by
  have hV := hw.V
  have hn := hV.n
  have htd := hV.td
  have kb := vk hV hk
  unfold f_X1_firstDayInChain L_X1_firstDayInChain_21
  rw [c_with hV hS.V hk hs, bp_some]
  cases hwk : vWith W.V k s with
  | false =>
    refine ⟨-1, rfl, Or.inl ⟨rfl, fun D _ h => ?_⟩⟩
    have := h.2.1
    rw [hwk] at this; cases this
  | true =>
    rw [if_pos rfl, chk_nI (by omega) (by decide), nI_clamp (by omega), lt_eq, hS.V.ra k hk]
    have hnever : (∀ D, ¬ vStand W.V k D = true) → sP (fun D => ∃ i, i < W.V.n ∧ (D = W.V.ra i ∨ D = W.V.sk i)) (okD W.V (W.L.take i0) k s) (-1) := fun h => Or.inl ⟨rfl, fun D _ hD => h D hD.2.2.1⟩
    refine lq2 (Q := fun o => ∃ b, o = some b ∧ sP (fun D => ∃ i, i < W.V.n ∧ (D = W.V.ra i ∨ D = W.V.sk i)) (okD W.V (W.L.take i0) k s) b) (W.V.n + 1) (fun t D => (∃ i, i < W.V.n ∧ (D = W.V.ra i ∨ D = W.V.sk i)) ∧ ¬ D < W.V.ra k ∧ (∀ D', okD W.V (W.L.take i0) k s D' → D ≤ D') ∧ ∃ ys : List Nat, ys.Nodup ∧ ys.length = t ∧ ∀ y, y ∈ ys → y < W.V.n ∧ W.V.sk y ≤ D) ?_ 0 rfl (Nat.zero_le _) (FU_gt (by omega)) ⟨⟨k, hk, Or.inl rfl⟩, by rw [Int32.lt_iff_toInt_lt]; omega, ?_, [], List.nodup_nil, rfl, fun y hy => by cases hy⟩
    · rintro t D kk ht ⟨hcand, hra, hmin, ys, ynd, ylen, yall⟩ hrc
      have htn : t ≤ W.V.n := by
        have := List.Nodup.length_le_of_subset ynd (l₂ := List.range W.V.n) (fun y hy => List.mem_range.mpr (yall y hy).1)
        rw [List.length_range] at this
        omega
      rw [hS.V.n, if_neg (fun h => by rw [nI_ltI (by omega) (by omega)] at h; omega), c_stand hV hS.V hk, bp_some]
      by_cases cst : vStand W.V k D = true
      · rw [if_pos cst]
        obtain ⟨r, f1, f2⟩ := c_fba hw hS hk hs hi0 he0 hp (d := D)
        rw [f1, bp_some]
        rcases f2 with ⟨rfl, hnb⟩ | ⟨o, ho, rfl, hlo, hbo⟩
        · rw [if_pos rfl]
          refine ⟨D, rfl, Or.inr ⟨hcand, ⟨?_, hwk, cst, hnb⟩, fun D' _ ok' hlt => ?_⟩⟩
          · obtain ⟨i, hi, e⟩ := hcand
            have hst := (vStand_t.mp cst)
            have hD : D ≠ -1 := by
              intro e1
              rw [e1, Int32.lt_iff_toInt_lt] at hra
              rcases hV.ra k hk with z | ⟨d, hd, z⟩
              · exact hst.1 z
              · rw [z, nI_toInt (by omega), show (-1 : Int32).toInt = -1 from rfl] at hra; omega
            rcases e with e | e
            · rcases hV.ra i hi with z | ⟨d, hd, z⟩
              · rw [z] at e; exact absurd e hD
              · rw [e, z]; exact inR_of (by omega) (by omega)
            · rcases hV.sk i hi with z | ⟨d, hd, z⟩
              · rw [z] at e; exact absurd e hD
              · rw [e, z]; exact inR_of (by omega) (by omega)
          · have := hmin D' ok'
            rw [Int32.le_iff_toInt_le] at this
            rw [Int32.lt_iff_toInt_lt] at hlt
            omega
        · have hon := (hw.me o).mp (List.mem_of_mem_take ho)
          have ob := vk hV hon
          rw [if_neg (nI_nm1 (by omega)), chk_nI (by omega) (by decide), nI_clamp (by omega), hS.V.sk o hon, chk_nI (by omega) (by decide)]
          have hso := vStand_t.mp (vList_f o hlo).2
          -- while the other one stands, the mark is not in
          have hout : ∀ D', okD W.V (W.L.take i0) k s D' → W.V.sk o = -1 ∨ ¬ W.V.sk o ≤ D' → False := by
            intro D' ok' hsk
            have hDD := hmin D' ok'
            have h2 := hso.2.1
            have hst' : vStand W.V o D' = true := vStand_t.mpr ⟨hso.1, by
              rw [Int32.lt_iff_toInt_lt] at h2 ⊢
              rw [Int32.le_iff_toInt_le] at hDD
              omega, hsk⟩
            have hl' : vList W.V o (W.V.ev k) s D' = true := by
              unfold vList at hlo ⊢
              simp only [Bool.and_eq_true] at hlo ⊢
              exact ⟨⟨hlo.1.1, hst'⟩, hlo.2⟩
            have := nbA_t.mp ok'.2.2.2 o ho hl'
            rw [hbo] at this; cases this
          by_cases csk : W.V.sk o = -1
          · rw [if_pos csk]
            exact ⟨-1, rfl, Or.inl ⟨rfl, fun D' _ ok' => hout D' ok' (Or.inl csk)⟩⟩
          · rw [if_neg csk, lt_eq, lt_eq, nI_1]
            have hgt : ¬ W.V.sk o ≤ D := hso.2.2.resolve_left csk
            have hgt' : D.toInt < (W.V.sk o).toInt := by rw [Int32.le_iff_toInt_le] at hgt; omega
            refine hrc (W.V.sk o) (by omega) ⟨⟨o, hon, Or.inr rfl⟩, ?_, ?_, o :: ys, ?_, by rw [List.length_cons, ylen], ?_⟩
            · rw [Int32.lt_iff_toInt_lt] at hra ⊢; omega
            · intro D' ok'
              by_cases z : W.V.sk o ≤ D'
              · exact z
              · exact absurd (Or.inr z) (fun h => hout D' ok' h)
            · refine List.nodup_cons.mpr ⟨fun hy => ?_, ynd⟩
              have := (yall o hy).2
              exact hgt this
            · intro y hy
              rcases List.mem_cons.mp hy with rfl | hy
              · exact ⟨hon, by rw [Int32.le_iff_toInt_le]; omega⟩
              · have := yall y hy
                refine ⟨this.1, ?_⟩
                have h3 := this.2
                rw [Int32.le_iff_toInt_le] at h3 ⊢; omega
      · rw [if_neg cst]
        refine ⟨-1, rfl, Or.inl ⟨rfl, fun D' _ ok' => cst ?_⟩⟩
        have hDD := hmin D' ok'
        have hst := vStand_t.mp ok'.2.2.1
        refine vStand_t.mpr ⟨hst.1, hra, ?_⟩
        rcases hst.2.2 with z | z
        · exact Or.inl z
        · right
          rw [Int32.le_iff_toInt_le] at z hDD ⊢
          omega
    · intro D' ok'
      have := (vStand_t.mp ok'.2.2.1).2.1
      rw [Int32.lt_iff_toInt_lt] at this
      rw [Int32.le_iff_toInt_le]; omega
theorem q_since (T : XS) (M : MS) (a1 a2 : Int32) (h : RLL T M) : ∃ (r : Int32) (T' : XS) (M' : MS), fo_since T a1 a2 = some (r, T') ∧ fm_since M a1 a2 = some (r, M') ∧ RLL T' M' := by
  obtain ⟨W, Ws, hh⟩ := id h
  have hV := hh.w.V
  have hR := hh.m.R
  have hw := hh.w
  unfold fo_since fm_since f_X11_since f_X12_since
  rw [c_mas hV hh.c.V, m_isMark hV hR, m_isScope]
  simp only [bp_some]
  cases h1 : inR a1 W.V.n with
  | false => exact ⟨_, _, _, rfl, rfl, h⟩
  | true =>
    cases h2 : inR a2 22 with
    | false => exact ⟨_, _, _, rfl, rfl, h⟩
    | true =>
      obtain ⟨k, hk, rfl⟩ := inR_nI h1
      obtain ⟨s, hs, rfl⟩ := inR_nI h2
      obtain ⟨i0, hi0, he0, hs0, hp, hr0⟩ := L_split hw hk
      obtain ⟨b, e1, e2⟩ := c_since hw hh.c hk hs hi0 he0 hp
      obtain ⟨b', M', e3, e4, e5⟩ := m_since hw hR hh.r.ad hh.r.lf hk hs0 hp hr0 hs
      simp only [Bool.and_self, if_true]
      rw [e1, e3, bp_some, sP_un e5 e2]
      exact ⟨_, _, _, rfl, rfl, RL_q h cqf_rf (mqf_of e4 (by decide) (by decide))⟩
/-- holding -/
def hv (V : VW) (L : List Nat) (d : Int32) (e s : Nat) : Int32 := itN (hF V (ch V L e s d)) 0 (ch V L e s d).length
def hsF (V : VW) (L : List Nat) (d : Int32) (e s : Nat) (a : Int32) : Int32 := a ||| hv V L d e s
theorem hs_or {V : VW} {L : List Nat} {d : Int32} {e : Nat} (a : Int32) : ∀ n, itN (hsF V L d e) a n = a ||| itN (hsF V L d e) 0 n := by
  intro n
  induction n with
  | zero => exact Int32.or_zero.symm
  | succ n ih =>
    show itN (hsF V L d e) a n ||| hv V L d e n = a ||| (itN (hsF V L d e) 0 n ||| hv V L d e n)
    rw [ih, Int32.or_assoc]
def hoF (V : VW) (L : List Nat) (d x : Int32) (e : Nat) (a : Int32) : Int32 := if x = -1 ∨ x = nI e then a ||| itN (hsF V L d e) 0 22 else a
theorem c_anyS {W : WW} {S : CS} (hw : WOK W) (hS : tW W S) {e : Nat} (he : e < W.V.ne) : ∃ S', f_X11_holdersInAnyScope S (nI e) = some (itN (hsF W.V W.L (nI W.V.td) e) 0 22, S') ∧ gI [21] [37] S S' := by
  unfold f_X11_holdersInAnyScope L_X11_holdersInAnyScope_4
  refine lq3 (Q := fun o => ∃ S', o = some (itN (hsF W.V W.L (nI W.V.td) e) 0 22, S') ∧ gI [21] [37] S S') 22 (fun s S1 x => gI [21] [37] S S1 ∧ x = itN (hsF W.V W.L (nI W.V.td) e) 0 s) ?_ 0 rfl (Nat.zero_le _) (FU_gt (by omega)) ⟨gI_rf, rfl⟩
  rintro s S1 x kk hs ⟨hg, rfl⟩ hr
  by_cases c : s < 22
  · have hS1 := cqf_W hS (cqf_of hg (by decide) (by decide))
    obtain ⟨S2, g1, g2, g3⟩ := c_ch1 hw hS1 (d := nI W.V.td) he c
    have hS2 := cqf_W hS1 (cqf_of g3 (by decide) (by decide))
    rw [if_neg (fun h => by rw [show (21 : Int32) = nI 21 from rfl, nI_ltI (by omega) (by omega)] at h; omega), hS1.V.td, g1, bp_some, c_holders hw.V hS2.V (ch_cOK hw) g2, bp_some, lt_eq, lt_eq, nI_1]
    exact hr S2 _ c ⟨gI_tr hg g3 (by decide) (by decide), rfl⟩
  · have : s = 22 := by omega
    subst this
    rw [if_pos (by decide)]
    exact ⟨S1, rfl, hg⟩
theorem c_holding {W : WW} {S : CS} (hw : WOK W) (hS : tW W S) (x : Int32) : ∃ S', L_X11_holding_26 x (fun S17 x18 => some (x18, S17)) FU S 0 0 = some (itN (hoF W.V W.L (nI W.V.td) x) 0 W.V.ne, S') ∧ gI [21] [37] S S' := by
  have h6 := hw.V.ne
  unfold L_X11_holding_26
  refine lq3 (Q := fun o => ∃ S', o = some (itN (hoF W.V W.L (nI W.V.td) x) 0 W.V.ne, S') ∧ gI [21] [37] S S') W.V.ne (fun e S1 y => gI [21] [37] S S1 ∧ y = itN (hoF W.V W.L (nI W.V.td) x) 0 e) ?_ 0 rfl (Nat.zero_le _) (FU_gt (by omega)) ⟨gI_rf, rfl⟩
  rintro e S1 y kk he ⟨hg, rfl⟩ hr
  have hS1 := cqf_W hS (cqf_of hg (by decide) (by decide))
  by_cases c : e < W.V.ne
  · obtain ⟨S2, g1, g2⟩ := c_anyS hw hS1 c
    rw [hS1.V.ne, if_neg (fun h => by rw [nI_leI (by omega) (by omega)] at h; omega)]
    simp only [jn0, g1, bw_some, lt_eq, nI_1]
    have hs : itN (hoF W.V W.L (nI W.V.td) x) 0 (e + 1) = hoF W.V W.L (nI W.V.td) x e (itN (hoF W.V W.L (nI W.V.td) x) 0 e) := rfl
    rw [hs] at hr
    generalize itN (hoF W.V W.L (nI W.V.td) x) 0 e = a at hr
    have go : (x = -1 ∨ x = nI e) → ∃ S', kk S2 (a ||| itN (hsF W.V W.L (nI W.V.td) e) 0 22) (nI (e + 1)) = some (itN (hoF W.V W.L (nI W.V.td) x) 0 W.V.ne, S') ∧ gI [21] [37] S S' := fun z => hr S2 _ c ⟨gI_tr hg g2 (by decide) (by decide), by unfold hoF; rw [if_pos z]⟩
    by_cases c1 : x = -1
    · rw [if_pos c1]; exact go (Or.inl c1)
    · rw [if_neg c1]
      by_cases c2 : x = nI e
      · rw [if_pos c2]; exact go (Or.inr c2)
      · rw [if_neg c2]
        exact hr S1 _ c ⟨hg, by unfold hoF; rw [if_neg (fun h => h.elim c1 c2)]⟩
  · have : e = W.V.ne := by omega
    subst this
    rw [hS1.V.ne, if_pos ((nI_leI (by omega) (by omega)).mpr (by omega))]
    exact ⟨S1, rfl, hg⟩
theorem m_holding1 {W : WW} {M : MS} (hw : WOK W) (hR : tR W.V (M.2 0)) (h21 : M.1 21 = -1) (h22 : M.1 22 = -1) {e : Nat} (he : e < W.V.ne) {x a : Int32} {kk0 : MS → Int32 → Option (Int32 × MS)} (hx : x = -1 ∨ x = nI e) : ∃ M', L_X12_holding_36 x (nI e) kk0 FU M a 0 = kk0 M' (a ||| itN (hsF W.V W.L (nI W.V.td) e) 0 22) ∧ fI [20] [18, 19] M M' := by
  unfold L_X12_holding_36
  refine lq3 (Q := fun o => ∃ M', o = kk0 M' (a ||| itN (hsF W.V W.L (nI W.V.td) e) 0 22) ∧ fI [20] [18, 19] M M') 22 (fun s M1 y => fI [20] [18, 19] M M1 ∧ y = itN (hsF W.V W.L (nI W.V.td) e) a s) ?_ 0 rfl (Nat.zero_le _) (FU_gt (by omega)) ⟨fI_rf, rfl⟩
  rintro s M1 y kk hs ⟨hf, rfl⟩ hr
  by_cases c : s < 22
  · have hR1 : tR W.V (M1.2 0) := by rw [hf.2 0 (by decide)]; exact hR
    obtain ⟨M2, g1, g2, g3⟩ := m_ch hw hR1 (by rw [hf.1 21 (by decide)]; exact h21) (by rw [hf.1 22 (by decide)]; exact h22) (d := nI W.V.td) he c
    have o1 := ch_cOK hw (e := e) (s := s) (d := nI W.V.td)
    have hR2 : tR W.V (M2.2 0) := by rw [g3.2 0 (by decide)]; exact hR1
    rw [if_neg (fun h => by rw [show (22 : Int32) = nI 22 from rfl, nI_leI (by omega) (by omega)] at h; omega)]
    simp only [jn0, chk_c4, m_A4 hR1, g1, bp_some, m_holders hw.V hR2 o1.m o1.le g2, lt_eq, nI_1]
    have go := hr M2 _ c ⟨fI_tr hf g3 (by decide) (by decide), rfl⟩
    by_cases c1 : x = -1
    · rw [if_pos c1]; exact go
    · rw [if_neg c1, if_pos (hx.resolve_left c1).symm]; exact go
  · have : s = 22 := by omega
    subst this
    rw [if_pos (by decide), hs_or]
    exact ⟨M1, rfl, hf⟩
theorem m_holding {W : WW} {M : MS} (hw : WOK W) (hR : tR W.V (M.2 0)) (h21 : M.1 21 = -1) (h22 : M.1 22 = -1) (x : Int32) : ∃ M', L_X12_holding_23 x (fun S29 x30 => some (x30, S29)) FU M 0 0 = some (itN (hoF W.V W.L (nI W.V.td) x) 0 W.V.ne, M') ∧ fI [20] [18, 19] M M' := by
  have h6 := hw.V.ne
  unfold L_X12_holding_23
  refine lq3 (Q := fun o => ∃ M', o = some (itN (hoF W.V W.L (nI W.V.td) x) 0 W.V.ne, M') ∧ fI [20] [18, 19] M M') W.V.ne (fun e M1 y => fI [20] [18, 19] M M1 ∧ y = itN (hoF W.V W.L (nI W.V.td) x) 0 e) ?_ 0 rfl (Nat.zero_le _) (FU_gt (by omega)) ⟨fI_rf, rfl⟩
  rintro e M1 y kk he ⟨hf, rfl⟩ hr
  have hR1 : tR W.V (M1.2 0) := by rw [hf.2 0 (by decide)]; exact hR
  rw [chk_c0, m_A0 hR1]
  by_cases c : e < W.V.ne
  · rw [if_neg (fun h => by rw [nI_leI (by omega) (by omega)] at h; omega)]
    have hs : itN (hoF W.V W.L (nI W.V.td) x) 0 (e + 1) = hoF W.V W.L (nI W.V.td) x e (itN (hoF W.V W.L (nI W.V.td) x) 0 e) := rfl
    rw [hs] at hr
    generalize itN (hoF W.V W.L (nI W.V.td) x) 0 e = a at hr
    by_cases cx : x = -1 ∨ x = nI e
    · obtain ⟨M2, g1, g2⟩ := m_holding1 hw hR1 (by rw [hf.1 21 (by decide)]; exact h21) (by rw [hf.1 22 (by decide)]; exact h22) c (a := a) (kk0 := fun S24 x25 => lt (nI e + 1) fun x26 => kk S24 x25 x26) cx
      rw [g1, lt_eq, nI_1]
      exact hr M2 _ c ⟨fI_tr hf g2 (by decide) (by decide), by unfold hoF; rw [if_pos cx]⟩
    · unfold L_X12_holding_36 FU
      rw [show (20000 : Nat) = 19999 + 1 from rfl]
      show ∃ M', (lo3 _ (19999 + 1) M1 a 0) = _ ∧ _
      rw [lo3_s]
      simp only [jn0]
      rw [if_neg (by decide), if_neg (fun z => cx (Or.inl z)), if_neg (fun z => cx (Or.inr z.symm)), lt_eq, nI_1]
      exact hr M1 _ c ⟨hf, by unfold hoF; rw [if_neg cx]⟩
  · have : e = W.V.ne := by omega
    subst this
    rw [if_pos ((nI_leI (by omega) (by omega)).mpr (by omega))]
    exact ⟨M1, rfl, hf⟩
theorem q_holding (T : XS) (M : MS) (a1 : Int32) (h : RLL T M) : ∃ (r : Int32) (T' : XS) (M' : MS), fo_holding T a1 = some (r, T') ∧ fm_holding M a1 = some (r, M') ∧ RLL T' M' := by
  obtain ⟨W, Ws, hh⟩ := id h
  have hV := hh.w.V
  have hR := hh.m.R
  have hw := hh.w
  have h6 := hV.ne
  obtain ⟨S', c1, c2⟩ := c_holding hw hh.c a1
  obtain ⟨M', d1, d2⟩ := m_holding hw hR hh.r.ad hh.r.lf a1
  have hin : f_X12_isIn a1 (-1) (nI W.V.ne - 1) = some (decide (a1 = -1) || inR a1 W.V.ne) := by
    have h0 := isIn_gen (x := a1) (n := W.V.ne) (by omega) rfl
    unfold f_X12_isIn at h0 ⊢
    by_cases z : a1 = -1
    · subst z
      have : ¬ nI W.V.ne - 1 < -1 := by
        intro hh
        rw [Int32.lt_iff_toInt_lt, show (-1 : Int32).toInt = -1 from rfl] at hh
        cases hne : W.V.ne with
        | zero => rw [hne] at hh; exact absurd hh (by decide)
        | succ m => rw [hne, nI_pred, nI_toInt (by omega)] at hh; omega
      rw [if_neg (by decide), if_neg this]; rfl
    · rw [decide_eq_false z, Bool.false_or, ← h0]
      by_cases z1 : a1 < 0
      · have : a1 < -1 := by
          rw [Int32.lt_iff_toInt_lt] at z1 ⊢
          have h1 : (0 : Int32).toInt = 0 := rfl
          have h2 : (-1 : Int32).toInt = -1 := rfl
          have h3 : a1.toInt ≠ -1 := fun e => z (Int32.toInt_inj.mp (by rw [e]; rfl))
          omega
        rw [if_pos this, if_pos z1]
      · have : ¬ a1 < -1 := by
          rw [Int32.lt_iff_toInt_lt] at z1 ⊢
          have h1 : (0 : Int32).toInt = 0 := rfl
          have h2 : (-1 : Int32).toInt = -1 := rfl
          omega
        rw [if_neg this, if_neg z1]
  unfold fo_holding fm_holding f_X11_holding f_X12_holding
  rw [chk_c0, m_A0 hR, hin, c_hasE hV hh.c.V, c1, d1]
  simp only [bp_some, jn0]
  by_cases z : a1 = -1
  · rw [if_pos z, decide_eq_true z]
    exact ⟨_, _, _, rfl, rfl, RL_q h (cqf_of c2 (by decide) (by decide)) (mqf_of d2 (by decide) (by decide))⟩
  · rw [if_neg z, decide_eq_false z]
    cases inR a1 W.V.ne with
    | false => exact ⟨_, _, _, rfl, rfl, h⟩
    | true => exact ⟨_, _, _, rfl, rfl, RL_q h (cqf_of c2 (by decide) (by decide)) (mqf_of d2 (by decide) (by decide))⟩
