/-! rows by value: insertion on both sides; season -/
def insI (pr : Nat → Bool) (l : List Nat) : Nat → Nat
  | 0 => 0
  | i + 1 => if pr (l.getD i 0) = true then insI pr l i else i + 1
theorem insI_le {pr : Nat → Bool} {l : List Nat} : ∀ i, insI pr l i ≤ i := by
  intro i
  induction i with
  | zero => exact Nat.le_refl _
  | succ i ih =>
    unfold insI
    split
    · omega
    · exact Nat.le_refl _
def prB (V : VW) (e x : Nat) (y : Nat) : Bool := vBet V e (nI (V.va x)) (nI (V.va y))
def insL (V : VW) (e : Nat) (l : List Nat) (x : Nat) : List Nat := l.take (insI (prB V e x) l l.length) ++ x :: l.drop (insI (prB V e x) l l.length)
theorem insL_len {V : VW} {e x : Nat} {l : List Nat} : (insL V e l x).length = l.length + 1 := by
  have := insI_le (pr := prB V e x) (l := l) l.length
  unfold insL
  rw [List.length_append, List.length_cons, List.length_take, List.length_drop]; omega
theorem insL_mem {V : VW} {e x y : Nat} {l : List Nat} : y ∈ insL V e l x ↔ y = x ∨ y ∈ l := by
  unfold insL
  generalize insI (prB V e x) l l.length = i
  rw [List.mem_append, List.mem_cons]
  conv => rhs; rw [← List.take_append_drop i l, List.mem_append]
  constructor
  · rintro (h | h | h)
    · exact Or.inr (Or.inl h)
    · exact Or.inl h
    · exact Or.inr (Or.inr h)
  · rintro (h | h | h)
    · exact Or.inr (Or.inl h)
    · exact Or.inl h
    · exact Or.inr (Or.inr h)
theorem c_insB {V : VW} {S : CS} {l : List Nat} {e x : Nat} (hV : VOK V) (hS : tC V S) (hl : ∀ y, y ∈ l → y < V.n) (h60 : l.length < 60) (hx : x < V.n) (hex : V.ev x = e) (hc : linC S l) : ∃ S', f_X7_insertByValue_l1 S (nI x) = some S' ∧ linC S' (insL V e l x) ∧ gI [21] [37] S S' := by
  have xb := vk hV hx
  unfold f_X7_insertByValue_l1 L_X7_insertByValue_l1_15
  rw [hc.1, if_pos (show nI l.length < 60 from by rw [show (60 : Int32) = nI 60 from rfl, nI_ltI (by omega) (by omega)]; exact h60), lt_eq]
  refine lqd2 (Q := fun o => ∃ S', o = some S' ∧ linC S' (insL V e l x) ∧ gI [21] [37] S S') (fun i S1 => i ≤ l.length ∧ gI [] [37] S S1 ∧ (∀ j, j < i → S1.2.1 37 j = nI (l.getD j 0)) ∧ (∀ j, i ≤ j → j < l.length → S1.2.1 37 (j + 1) = nI (l.getD j 0)) ∧ insI (prB V e x) l l.length = insI (prB V e x) l i) ?_ l.length rfl (FU_gt (by omega)) ⟨Nat.le_refl _, gI_rf, fun j hj => hc.2 j hj, fun j h1 h2 => by omega, rfl⟩
  rintro i S1 kk ⟨hi, hg, h1, h2, h3⟩ hr
  have hS1 : tC V S1 := tC_gI hS hg (by decide) (by decide)
  have fin : insI (prB V e x) l i = i → ∃ S', (chk (nI i) 60 (lt (ca S1 37 (upd (S1.2.1 37) (nI i).toNatClampNeg (nI x))) fun S15 => lt (ci S15 21 ((S15.1 21) + 1)) fun S16 => some S16)) = some S' ∧ linC S' (insL V e l x) ∧ gI [21] [37] S S' := by
    intro hz
    rw [chk_nI (by omega) (by decide), nI_clamp (by omega), lt_eq, lt_eq]
    refine ⟨_, rfl, ⟨?_, ?_⟩, gI_ci (gI_ca (gI_tr (ks := [21]) gI_rf hg (by decide) (by decide)) (by decide)) (by decide)⟩
    · show S1.1 21 + 1 = _
      rw [hg.1 21 (by decide), hc.1, nI_1, insL_len]
    · unfold insL
      rw [h3, hz]
      exact hold_ins hi h1 h2
  cases i with
  | zero => rw [if_pos (show nI 0 ≤ 0 by decide)]; exact fin rfl
  | succ i =>
    have hy := hl _ (getD_mem (l := l) (i := i) (by omega))
    rw [if_neg (nI_nle (by omega) (by omega)), nI_pred, chk_nI (by omega) (by decide), nI_clamp (by omega), h1 i (by omega), c_better hV hS1 hx hy, bp_some, chk_nI (by omega) (by decide), chk_nI (by omega) (by decide), nI_clamp (by omega)]
    simp only [lt_eq, pk_m1]
    have ep : prB V e x (l.getD i 0) = vBetM V x (l.getD i 0) := by unfold prB vBetM; rw [hex]
    have hst : insI (prB V e x) l (i + 1) = if prB V e x (l.getD i 0) = true then insI (prB V e x) l i else i + 1 := rfl
    rw [ep] at hst
    by_cases cb : vBetM V x (l.getD i 0) = true
    · rw [if_pos cb] at hst ⊢
      refine hr _ (by omega) ⟨by omega, gI_ca hg (by decide), ?_, ?_, by rw [h3, hst]; rfl⟩
      · intro j hj
        show upd (S1.2.1 37) (i + 1) _ j = _
        rw [pk_un (by omega)]; exact h1 j (by omega)
      · intro j hj hj2
        show upd (S1.2.1 37) (i + 1) _ (j + 1) = _
        by_cases z : j = i
        · subst z; rw [pk_us]
        · rw [pk_un (by omega)]; exact h2 j (by omega) hj2
    · rw [if_neg cb] at hst ⊢
      exact fin hst
def vFore (V : VW) (e a b : Nat) : Bool := if V.va a = V.va b then vAhead V a b else vBet V e (nI (V.va a)) (nI (V.va b))
theorem m_fore {V : VW} {M : MS} (hV : VOK V) (hR : tR V (M.2 0)) {e a b : Nat} (he : e < V.ne) (ha : a < V.n) (hb : b < V.n) : f_X12_isFore M (nI e) (nI a) (nI b) = some (vFore V e a b) := by
  have ka := vk hV ha
  have kb := vk hV hb
  unfold f_X12_isFore vFore
  simp only [m_o5 hV hR ha, m_o5 hV hR hb, bp_some, m_ahead hV hR ha hb, m_better hV hR he]
  by_cases c : V.va a = V.va b
  · rw [if_pos (by rw [c]), if_pos c]
  · rw [if_neg (fun h => c ((nI_eq (by omega) (by omega)).mp h)), if_neg c]
theorem fore_bet {V : VW} {e a b : Nat} (h : vAhead V a b = false) : vFore V e a b = prB V e a b := by
  unfold vFore prB
  by_cases c : V.va a = V.va b
  · rw [if_pos c, c, vBet_irr]; exact h
  · rw [if_neg c]
theorem m_insB_list {V : VW} {M : MS} {l : List Nat} {e x c : Nat} {kk0 : MS → Int32 → Option (MS)} (hV : VOK V) (hR : tR V (M.2 0)) (he : e < V.ne) (hl : ∀ y, y ∈ l → y < V.n) (h60 : l.length < 60) (hx : x < V.n) (hc60 : c < 60) (hcx : M.2 18 c = nI x) (hah : ∀ y, y ∈ l → vAhead V x y = false) (hc : linM M l) : ∃ M' i', L_X12_layList_129 (nI e) (nI c) kk0 FU M (nI l.length) = kk0 M' (nI i') ∧ i' < 60 ∧ fI [] [19] M M' ∧ hold (upd (M'.2 19) i' (nI x)) (insL V e l x) := by
  have xb := vk hV hx
  unfold L_X12_layList_129
  refine lqd2 (Q := fun o => ∃ M' i', o = kk0 M' (nI i') ∧ i' < 60 ∧ fI [] [19] M M' ∧ hold (upd (M'.2 19) i' (nI x)) (insL V e l x)) (fun i M1 => i ≤ l.length ∧ fI [] [19] M M1 ∧ (∀ j, j < i → M1.2 19 j = nI (l.getD j 0)) ∧ (∀ j, i ≤ j → j < l.length → M1.2 19 (j + 1) = nI (l.getD j 0)) ∧ insI (prB V e x) l l.length = insI (prB V e x) l i) ?_ l.length rfl (FU_gt (by omega)) ⟨Nat.le_refl _, fI_rf, fun j hj => hc.2 j hj, fun j h1 h2 => by omega, rfl⟩
  rintro i M1 kk ⟨hi, hg, h1, h2, h3⟩ hr
  have hR1 : tR V (M1.2 0) := by rw [hg.2 0 (by decide)]; exact hR
  have fin : insI (prB V e x) l i = i → ∃ M' i', kk0 M1 (nI i) = kk0 M' (nI i') ∧ i' < 60 ∧ fI [] [19] M M' ∧ hold (upd (M'.2 19) i' (nI x)) (insL V e l x) := by
    intro hz
    refine ⟨M1, i, rfl, by omega, hg, ?_⟩
    unfold insL
    rw [h3, hz]
    exact hold_ins hi h1 h2
  cases i with
  | zero => rw [if_pos (show nI 0 ≤ 0 by decide)]; exact fin rfl
  | succ i =>
    have hym := getD_mem (l := l) (i := i) (by omega)
    have hy := hl _ hym
    rw [if_neg (nI_nle (by omega) (by omega)), nI_pred, chk_nI hc60 (by decide), chk_nI (by omega) (by decide), nI_clamp (by omega), nI_clamp (by omega), hg.2 18 (by decide), hcx, h1 i (by omega), m_fore hV hR1 he hx hy, fore_bet (hah _ hym), bp_some, chk_nI (by omega) (by decide), chk_nI (by omega) (by decide), nI_clamp (by omega)]
    simp only [lt_eq, pk_m1]
    have hst : insI (prB V e x) l (i + 1) = if prB V e x (l.getD i 0) = true then insI (prB V e x) l i else i + 1 := rfl
    by_cases cb : prB V e x (l.getD i 0) = true
    · rw [if_pos cb] at hst ⊢
      refine hr _ (by omega) ⟨by omega, fI_sa hg (by decide), ?_, ?_, by rw [h3, hst]; rfl⟩
      · intro j hj
        show upd (M1.2 19) (i + 1) _ j = _
        rw [pk_un (by omega)]; exact h1 j (by omega)
      · intro j hj hj2
        show upd (M1.2 19) (i + 1) _ (j + 1) = _
        by_cases z : j = i
        · subst z; rw [pk_us]
        · rw [pk_un (by omega)]; exact h2 j (by omega) hj2
    · rw [if_neg cb] at hst ⊢
      exact fin hst
theorem m_insB_season {V : VW} {M : MS} {l : List Nat} {e x c : Nat} {kk0 : MS → Int32 → Option (Int32 × MS)} (hV : VOK V) (hR : tR V (M.2 0)) (he : e < V.ne) (hl : ∀ y, y ∈ l → y < V.n) (h60 : l.length < 60) (hx : x < V.n) (hc60 : c < 60) (hcx : M.2 18 c = nI x) (hah : ∀ y, y ∈ l → vAhead V x y = false) (hc : linM M l) : ∃ M' i', L_X12_season_91 (nI e) (nI c) kk0 FU M (nI l.length) = kk0 M' (nI i') ∧ i' < 60 ∧ fI [] [19] M M' ∧ hold (upd (M'.2 19) i' (nI x)) (insL V e l x) := by
  have xb := vk hV hx
  unfold L_X12_season_91
  refine lqd2 (Q := fun o => ∃ M' i', o = kk0 M' (nI i') ∧ i' < 60 ∧ fI [] [19] M M' ∧ hold (upd (M'.2 19) i' (nI x)) (insL V e l x)) (fun i M1 => i ≤ l.length ∧ fI [] [19] M M1 ∧ (∀ j, j < i → M1.2 19 j = nI (l.getD j 0)) ∧ (∀ j, i ≤ j → j < l.length → M1.2 19 (j + 1) = nI (l.getD j 0)) ∧ insI (prB V e x) l l.length = insI (prB V e x) l i) ?_ l.length rfl (FU_gt (by omega)) ⟨Nat.le_refl _, fI_rf, fun j hj => hc.2 j hj, fun j h1 h2 => by omega, rfl⟩
  rintro i M1 kk ⟨hi, hg, h1, h2, h3⟩ hr
  have hR1 : tR V (M1.2 0) := by rw [hg.2 0 (by decide)]; exact hR
  have fin : insI (prB V e x) l i = i → ∃ M' i', kk0 M1 (nI i) = kk0 M' (nI i') ∧ i' < 60 ∧ fI [] [19] M M' ∧ hold (upd (M'.2 19) i' (nI x)) (insL V e l x) := by
    intro hz
    refine ⟨M1, i, rfl, by omega, hg, ?_⟩
    unfold insL
    rw [h3, hz]
    exact hold_ins hi h1 h2
  cases i with
  | zero => rw [if_pos (show nI 0 ≤ 0 by decide)]; exact fin rfl
  | succ i =>
    have hym := getD_mem (l := l) (i := i) (by omega)
    have hy := hl _ hym
    rw [if_neg (nI_nle (by omega) (by omega)), nI_pred, chk_nI hc60 (by decide), chk_nI (by omega) (by decide), nI_clamp (by omega), nI_clamp (by omega), hg.2 18 (by decide), hcx, h1 i (by omega), m_fore hV hR1 he hx hy, fore_bet (hah _ hym), bp_some, chk_nI (by omega) (by decide), chk_nI (by omega) (by decide), nI_clamp (by omega)]
    simp only [lt_eq, pk_m1]
    have hst : insI (prB V e x) l (i + 1) = if prB V e x (l.getD i 0) = true then insI (prB V e x) l i else i + 1 := rfl
    by_cases cb : prB V e x (l.getD i 0) = true
    · rw [if_pos cb] at hst ⊢
      refine hr _ (by omega) ⟨by omega, fI_sa hg (by decide), ?_, ?_, by rw [h3, hst]; rfl⟩
      · intro j hj
        show upd (M1.2 19) (i + 1) _ j = _
        rw [pk_un (by omega)]; exact h1 j (by omega)
      · intro j hj hj2
        show upd (M1.2 19) (i + 1) _ (j + 1) = _
        by_cases z : j = i
        · subst z; rw [pk_us]
        · rw [pk_un (by omega)]; exact h2 j (by omega) hj2
    · rw [if_neg cb] at hst ⊢
      exact fin hst
/-- rows that grow along the order -/
def gro (g : List Nat → Nat → List Nat) (P : Nat → Prop) : Prop := ∀ acc k, g acc k = acc ∨ ((g acc k).length = acc.length + 1 ∧ P k ∧ ∀ y, y ∈ g acc k ↔ y = k ∨ y ∈ acc)
theorem gro_b {g : List Nat → Nat → List Nat} {P : Nat → Prop} (hg : gro g P) (L : List Nat) : ∀ i, ((L.take i).foldl g []).length ≤ i ∧ ∀ y, y ∈ (L.take i).foldl g [] → y ∈ L.take i ∧ P y := by
  intro i
  induction i with
  | zero => exact ⟨Nat.le_refl _, fun y hy => by simp at hy⟩
  | succ i ih =>
    by_cases hi : i < L.length
    · rw [take_s hi, List.foldl_append]
      show (g ((L.take i).foldl g []) (L.getD i 0)).length ≤ i + 1 ∧ ∀ y, y ∈ g ((L.take i).foldl g []) (L.getD i 0) → _
      rcases hg ((L.take i).foldl g []) (L.getD i 0) with e | ⟨e1, e2, e3⟩
      · rw [e]
        exact ⟨by omega, fun y hy => ⟨List.mem_append_left _ (ih.2 y hy).1, (ih.2 y hy).2⟩⟩
      · refine ⟨by omega, fun y hy => ?_⟩
        rcases (e3 y).mp hy with rfl | hy
        · exact ⟨by simp, e2⟩
        · exact ⟨List.mem_append_left _ (ih.2 y hy).1, (ih.2 y hy).2⟩
    · rw [List.take_of_length_le (by omega)]
      rw [List.take_of_length_le (by omega)] at ih
      exact ⟨by omega, ih.2⟩
theorem gro_s {g : List Nat → Nat → List Nat} {L : List Nat} {i : Nat} (hi : i < L.length) : (L.take (i + 1)).foldl g [] = g ((L.take i).foldl g []) (L.getD i 0) := by
  rw [take_s hi, List.foldl_append]; rfl
/-- in a sorted row none behind is ahead -/
theorem srt_take {V : VW} {L : List Nat} (hL : srt V L) {i y : Nat} (hi : i < L.length) (hy : y ∈ L.take i) : vAhead V (L.getD i 0) y = false := by
  obtain ⟨j, hj, e⟩ := mem_ix hy
  rw [List.length_take] at hj
  have gi : ∀ j (hj : j < L.length), L.getD j 0 = L[j] := fun j hj => by rw [List.getD_eq_getElem?_getD, List.getElem?_eq_getElem hj]; rfl
  have e2 : (L.take i).getD j 0 = L.getD j 0 := by rw [List.getD_eq_getElem?_getD, List.getElem?_take, if_pos (by omega), List.getD_eq_getElem?_getD]
  rw [← e, e2, gi i hi, gi j (by omega)]
  exact vA_asym (List.pairwise_iff_getElem.mp hL j i (by omega) hi (by omega))
def ssF (V : VW) (e y : Nat) (d : Int32) (acc : List Nat) (k : Nat) : List Nat := if V.dy k / 365 = y then (if vList V k e 0 d = true then insL V e acc k else acc) else acc
theorem ssF_gro {V : VW} {e y : Nat} {d : Int32} : gro (ssF V e y d) (fun k => V.ev k = e) := by
  intro acc k
  unfold ssF
  split
  · split
    · rename_i h
      exact Or.inr ⟨insL_len, (vList_f k h).1, fun y => insL_mem⟩
    · exact Or.inl rfl
  · exact Or.inl rfl
theorem c_season {W : WW} {S : CS} (hw : WOK W) (hS : tW W S) {e y : Nat} {d : Int32} (he : e < W.V.ne) (hy : y < 55) : ∃ S', f_X7_fillWithSeason_l1 S (nI e) (nI y) d = some S' ∧ linC S' (W.L.foldl (ssF W.V e y d) []) ∧ gI [21] [37] S S' := by
  have hV := hw.V
  have hn := hV.n
  have hle := hw.le
  have hb := gro_b (ssF_gro (V := W.V) (e := e) (y := y) (d := d)) W.L
  unfold f_X7_fillWithSeason_l1 L_X7_fillWithSeason_l1_8
  rw [lt_eq]
  refine lq2 (Q := fun o => ∃ S', o = some S' ∧ linC S' (W.L.foldl (ssF W.V e y d) []) ∧ gI [21] [37] S S') W.V.n (fun i S1 => linC S1 ((W.L.take i).foldl (ssF W.V e y d) []) ∧ gI [21] [37] S S1) ?_ 0 rfl (Nat.zero_le _) (FU_gt (by omega)) ⟨⟨rfl, fun i h => by cases h⟩, gI_ci gI_rf (by decide)⟩
  rintro i S1 kk hi ⟨hc, hg⟩ hr
  have hS1 := cqf_W hS (cqf_of hg (by decide) (by decide))
  by_cases ci' : i < W.V.n
  · have hil : i < W.L.length := by omega
    have hx := (hw.me _).mp (getD_mem hil)
    have xb := vk hV hx
    have hacc := hb i
    rw [gro_s hil] at hr
    have hs0 : (0 : Int32) = nI 0 := rfl
    have hl := c_listed hV hS1.V (d := d) hx he (show 0 < 22 by decide)
    rw [← hs0] at hl
    rw [hS1.V.n, if_neg (fun h => by rw [nI_leI (by omega) (by omega)] at h; omega), chk_nI (by omega) (by decide), nI_clamp (by omega), hS1.o i hil, lt_eq, chk_nI (by omega) (by decide), nI_clamp (by omega), hS1.V.dy _ hx, hl, bp_some, show (365 : Int32) = nI 365 from rfl, pk_div (by omega) (by decide) (by decide)]
    simp only [lt_eq, nI_1]
    generalize (W.L.take i).foldl (ssF W.V e y d) [] = acc at hc hacc hr
    have hr := fun a h1 h2 => hr a ci' ⟨h1, h2⟩
    unfold ssF at hr
    by_cases c1 : W.V.dy (W.L.getD i 0) / 365 = y
    · rw [if_pos (by rw [c1])]
      rw [if_pos c1] at hr
      by_cases c2 : vList W.V (W.L.getD i 0) e 0 d = true
      · rw [if_pos c2]
        rw [if_pos c2] at hr
        obtain ⟨S2, g1, g2, g3⟩ := c_insB hV hS1.V (l := acc) (e := e) (fun z hz => (hw.me z).mp (List.mem_of_mem_take (hacc.2 z hz).1)) (by omega) hx (vList_f _ c2).1 hc
        rw [g1, bp_some]
        exact hr S2 g2 (gI_tr hg g3 (by decide) (by decide))
      · rw [if_neg c2]
        rw [if_neg c2] at hr
        exact hr S1 hc hg
    · rw [if_neg (fun h => c1 ((nI_eq (by omega) (by omega)).mp h))]
      rw [if_neg c1] at hr
      exact hr S1 hc hg
  · have : i = W.V.n := by omega
    subst this
    rw [hS1.V.n, if_pos ((nI_leI (by omega) (by omega)).mpr (by omega))]
    rw [List.take_of_length_le (by omega)] at hc
    exact ⟨S1, rfl, hc, hg⟩
/-- the reference's row of those that stand -/
theorem m_row {W : WW} {M : MS} (hw : WOK W) (hR : tR W.V (M.2 0)) (h21 : M.1 21 = -1) (h22 : M.1 22 = -1) {e s : Nat} {d : Int32} (he : e < W.V.ne) (hs : s < 22) : ∃ M' : MS, f_X12_layOrder M (nI e) (nI s) d = some M' ∧ M'.1 20 = nI (W.L.filter (fun k => vList W.V k e s d)).length ∧ hold (M'.2 18) (W.L.filter (fun k => vList W.V k e s d)) ∧ fI [20] [18] M M' := by
  have h60 := hw.V.n
  obtain ⟨M1, l, h1, h2, h3, h4, h5, h6⟩ := m_layOrder hw.V (M := M) (d := d) he hs hR
  have ef : W.L.filter (vSel W.V (M.1 21) (M.1 22) e s d) = W.L.filter (fun k => vList W.V k e s d) := List.filter_congr (fun k hk => by
    have := (hw.me k).mp hk
    unfold vSel vList
    rw [h21, h22, nI_m1 (by omega)]
    simp)
  have hl : l = W.L.filter (fun k => vList W.V k e s d) := by
    rw [← ef]
    exact srt_uniq h4 (List.Pairwise.filter _ hw.so) (fun k => by rw [h5, List.mem_filter, hw.me])
  rw [hl] at h2 h3
  exact ⟨M1, h1, h2, h3, h6⟩
theorem m_season {W : WW} {M : MS} (hw : WOK W) (hR : tR W.V (M.2 0)) {e y : Nat} {d : Int32} (he : e < W.V.ne) (hy : y < 55) (h20 : M.1 20 = 0) (h18 : hold (M.2 18) (W.L.filter (fun k => vList W.V k e 0 d))) {kk0 : MS → Option (Int32 × MS)} : ∃ M', L_X12_season_55 (nI e) (nI y) (nI (W.L.filter (fun k => vList W.V k e 0 d)).length) kk0 FU M 0 = kk0 M' ∧ linM M' (W.L.foldl (ssF W.V e y d) []) ∧ fI [20] [19] M M' := by
  have hV := hw.V
  have hn := hV.n
  have hle := hw.le
  have hlen := List.length_filter_le (fun k => vList W.V k e 0 d) W.L
  have hm : ∀ z, z ∈ W.L.filter (fun k => vList W.V k e 0 d) → z < W.V.n ∧ vList W.V z e 0 d = true := fun z hz => ⟨(hw.me z).mp (List.mem_filter.mp hz).1, (List.mem_filter.mp hz).2⟩
  have hso : srt W.V (W.L.filter (fun k => vList W.V k e 0 d)) := List.Pairwise.filter _ hw.so
  have hfold : W.L.foldl (ssF W.V e y d) [] = (W.L.filter (fun k => vList W.V k e 0 d)).foldl (ssF W.V e y d) [] := by
    rw [List.foldl_filter]
    congr 1
    funext acc k
    by_cases c : vList W.V k e 0 d = true
    · rw [if_pos c]
    · rw [if_neg c]; unfold ssF; rw [if_neg c]; split <;> rfl
  rw [hfold]
  generalize W.L.filter (fun k => vList W.V k e 0 d) = l at *
  have hb := gro_b (ssF_gro (V := W.V) (e := e) (y := y) (d := d)) l
  unfold L_X12_season_55
  refine lq2 (Q := fun o => ∃ M', o = kk0 M' ∧ linM M' (l.foldl (ssF W.V e y d) []) ∧ fI [20] [19] M M') l.length (fun i M1 => linM M1 ((l.take i).foldl (ssF W.V e y d) []) ∧ fI [20] [19] M M1) ?_ 0 rfl (Nat.zero_le _) (FU_gt (by omega)) ⟨⟨h20, fun i h => by cases h⟩, fI_rf⟩
  rintro i M1 kk hi ⟨hc, hg⟩ hr
  have hR1 : tR W.V (M1.2 0) := by rw [hg.2 0 (by decide)]; exact hR
  by_cases ci' : i < l.length
  · have hx := hm _ (getD_mem ci')
    have xb := vk hV hx.1
    have hacc := hb i
    have h18i : M1.2 18 i = nI (l.getD i 0) := by rw [hg.2 18 (by decide)]; exact h18 i ci'
    rw [gro_s ci'] at hr
    rw [if_neg (fun h => by rw [nI_leI (by omega) (by omega)] at h; omega), chk_nI (by omega) (by decide), nI_clamp (by omega), h18i, m_o3 hV hR1 hx.1, bp_some, show (365 : Int32) = nI 365 from rfl, pk_div (by omega) (by decide) (by decide)]
    simp only [lt_eq, nI_1]
    generalize hacq : (l.take i).foldl (ssF W.V e y d) [] = acc at hc hacc hr
    have hr := fun a h1 h2 => hr a ci' ⟨h1, h2⟩
    unfold ssF at hr
    rw [if_pos hx.2] at hr
    by_cases c1 : W.V.dy (l.getD i 0) / 365 = y
    · rw [if_pos (by rw [c1]), hc.1]
      rw [if_pos c1] at hr
      obtain ⟨M2, i', g1, g2, g3, g4⟩ := m_insB_season hV hR1 he (l := acc) (x := l.getD i 0) (c := i) (kk0 := fun S25 x26 => chk (nI i) 60 (chk x26 60 (kk (si (sa S25 19 (upd (S25.2 19) x26.toNatClampNeg (S25.2 18 i))) 20 ((sa S25 19 (upd (S25.2 19) x26.toNatClampNeg (S25.2 18 i))).1 20 + 1)) (nI (i + 1))))) (fun z hz => (hm z (List.mem_of_mem_take (hacc.2 z hz).1)).1) (by omega) hx.1 (by omega) h18i (fun z hz => srt_take hso ci' (hacc.2 z hz).1) hc
      rw [g1, chk_nI (by omega) (by decide), chk_nI g2 (by decide), nI_clamp (by omega), g3.2 18 (by decide), h18i]
      refine hr _ ⟨?_, g4⟩ (fI_si (fI_sa (fI_tr (ks := [20]) hg g3 (by decide) (by decide)) (by decide)) (by decide))
      show M2.1 20 + 1 = _
      rw [g3.1 20 (by decide), hc.1, nI_1, insL_len]
    · rw [if_neg (fun h => c1 ((nI_eq (by omega) (by omega)).mp h))]
      rw [if_neg c1] at hr
      exact hr M1 hc hg
  · have : i = l.length := by omega
    subst this
    rw [if_pos ((nI_leI (by omega) (by omega)).mpr (by omega))]
    rw [List.take_length] at hc
    exact ⟨M1, rfl, hc, hg⟩
theorem q_season (T : XS) (M : MS) (a1 a2 a3 : Int32) (h : RLL T M) : ∃ (r : Int32) (T' : XS) (M' : MS), fo_season T a1 a2 a3 = some (r, T') ∧ fm_season M a1 a2 a3 = some (r, M') ∧ RLL T' M' := by
  obtain ⟨W, Ws, hh⟩ := id h
  have hV := hh.w.V
  have hR := hh.m.R
  have hw := hh.w
  have h6 := hV.ne
  have hle := hw.le
  have hn := hV.n
  unfold fo_season fm_season f_X11_season f_X12_season
  rw [chk_c0, m_A0 hR, isIn_gen (n := W.V.ne) (by omega) rfl, c_hasE hV hh.c.V, ite_le2 54 (by decide) (show (54 : Int32) = nI 54 from rfl), isIn_n (y := 54) 54 (by decide) rfl]
  simp only [bp_some, lt_eq]
  cases h1 : inR a1 W.V.ne with
  | false => exact ⟨_, _, _, rfl, rfl, h⟩
  | true =>
    cases h2 : inR a2 55 with
    | false => exact ⟨_, _, _, rfl, rfl, h⟩
    | true =>
      obtain ⟨e, he, rfl⟩ := inR_nI h1
      obtain ⟨y, hy, rfl⟩ := inR_nI h2
      obtain ⟨S', c1, c2, c3⟩ := c_season hw hh.c (d := nI W.V.td) he hy
      obtain ⟨M1, d1, d2, d3, d4⟩ := m_row hw hR hh.r.ad hh.r.lf (s := 0) (d := nI W.V.td) he (by decide)
      rw [show nI 0 = 0 from rfl] at d1
      have hl60 : (W.L.foldl (ssF W.V e y (nI W.V.td)) []).length ≤ 60 := by
        have := (gro_b (ssF_gro (V := W.V) (e := e) (y := y) (d := nI W.V.td)) W.L W.V.n).1
        rw [List.take_of_length_le (by omega)] at this
        omega
      obtain ⟨M2, f1, f2, f3⟩ := m_season hw (M := si M1 20 0) (e := e) (y := y) (d := nI W.V.td) (by show tR W.V (M1.2 0); rw [d4.2 0 (by decide)]; exact hR) he hy rfl d3 (kk0 := fun S32 => if a3 = -1 then some (S32.1 20, S32) else bp (f_X12_isIn a3 0 (S32.1 20 - 1)) (fun x33 => if x33 = true then chk a3 60 (some (S32.2 19 a3.toNatClampNeg, S32)) else some (-2, S32)))
      rw [if_pos rfl, if_pos rfl, if_pos rfl, if_pos rfl, hh.c.V.td, c1, bp_some, c_pick hl60 c2, bp_some, chk_c4, m_A4 hR, d1, bp_some, d2, f1, m_pick hl60 f2]
      refine ⟨_, _, _, rfl, rfl, RL_q h (cqf_of c3 (by decide) (by decide)) ?_⟩
      exact mqf_of (fI_tr (fI_si (fI_tr (ks := [20]) (ka := [18, 19]) fI_rf d4 (by decide) (by decide)) (by decide)) f3 (by decide) (by decide)) (by decide) (by decide)
