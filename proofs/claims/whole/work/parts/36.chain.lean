/-! the reference's chain out of its row -/
def chSt (V : VW) (e : Nat) (acc : List Nat) (k : Nat) : List Nat := if acc ≠ [] ∧ vBet V e (nI (V.va (acc.getD (acc.length - 1) 0))) (nI (V.va k)) = true then acc else acc ++ [k]
theorem hold_push {f : Nat → Int32} {l : List Nat} {x : Nat} (h : hold f l) : hold (upd f l.length (nI x)) (l ++ [x]) := by
  intro i hi
  rw [List.length_append] at hi
  rw [List.getD_eq_getElem?_getD, List.getElem?_append]
  by_cases c : i < l.length
  · rw [if_pos c, pk_un (by omega), h i c, List.getD_eq_getElem?_getD]
  · have e : i = l.length := by simp at hi; omega
    subst e
    rw [if_neg c, pk_us, Nat.sub_self]; rfl
set_option maxRecDepth 100000 in
theorem m_layC {V : VW} (hV : VOK V) {e : Nat} (he : e < V.ne) {l : List Nat} (hl : ∀ y ∈ l, y < V.n) (h60l : l.length ≤ 60) : ∀ (m fuel i : Nat) (M : MS) (acc : List Nat), i + m = l.length → m < fuel → tR V (M.2 0) → M.1 20 = nI acc.length → hold (M.2 18) l → hold (M.2 19) acc → acc.length ≤ i → (∀ y ∈ acc, y < V.n) → ∃ M' : MS, L_X12_layChain_21 (nI e) (nI l.length) (fun S => some S) fuel M (nI i) = some M' ∧ M'.1 20 = nI ((l.drop i).foldl (chSt V e) acc).length ∧ hold (M'.2 19) ((l.drop i).foldl (chSt V e) acc) ∧ fI [20] [19] M M' := by
  have h60 := hV.n
  intro m
  induction m with
  | zero =>
    intro fuel i M acc hi hf hR h20 h18 h19 hle hac
    cases fuel with
    | zero => omega
    | succ f =>
      refine ⟨M, ?_, ?_, ?_, fI_rf⟩
      · unfold L_X12_layChain_21
        rw [lo2_succ, if_pos ((nI_leI (by omega) (by omega)).mpr (by omega))]
      · rw [List.drop_eq_nil_of_le (by omega)]; exact h20
      · rw [List.drop_eq_nil_of_le (by omega)]; exact h19
  | succ m ih =>
    intro fuel i M acc hi hf hR h20 h18 h19 hle hac
    cases fuel with
    | zero => omega
    | succ f =>
      have hil : i < l.length := by omega
      have hx : l.getD i 0 < V.n := hl _ (getD_mem hil)
      have hdr : l.drop i = l.getD i 0 :: l.drop (i + 1) := by
        rw [List.drop_eq_getElem_cons hil, List.getD_eq_getElem?_getD, List.getElem?_eq_getElem hil]; rfl
      have hv : ∀ y, y < V.n → f_X12_of M (nI y) 5 = some (nI (V.va y)) := fun y hy => by rw [← hR.va y hy]; exact m_of (by omega) (by decide)
      have hone : L_X12_layChain_21 (nI e) (nI l.length) (fun S => some S) (f + 1) M (nI i) = (if acc ≠ [] ∧ vBet V e (nI (V.va (acc.getD (acc.length - 1) 0))) (nI (V.va (l.getD i 0))) = true then L_X12_layChain_21 (nI e) (nI l.length) (fun S => some S) f M (nI (i + 1)) else L_X12_layChain_21 (nI e) (nI l.length) (fun S => some S) f (si (sa M 19 (upd (M.2 19) acc.length (nI (l.getD i 0)))) 20 ((sa M 19 (upd (M.2 19) acc.length (nI (l.getD i 0)))).1 20 + 1)) (nI (i + 1))) := by
        unfold L_X12_layChain_21
        rw [lo2_succ, if_neg (fun h => by rw [nI_leI (by omega) (by omega)] at h; omega)]
        simp only [lt_eq, jn0, nI_1, h20, nI_clamp (show i < 2 ^ 31 by omega), nI_clamp (show acc.length < 2 ^ 31 by omega), h18 i hil, chk_nI (show i < 60 by omega) (by decide), chk_nI (show acc.length < 60 by omega) (by decide), hv _ hx, bp_some]
        by_cases c0 : acc = []
        · subst c0
          rw [if_pos (show nI ([] : List Nat).length ≤ 0 by decide), if_neg (fun h => h.1 rfl)]
        · have hp : 0 < acc.length := List.length_pos_iff.mpr c0
          obtain ⟨t, ht⟩ : ∃ t, acc.length = t + 1 := ⟨acc.length - 1, by omega⟩
          rw [if_neg (nI_nle hp (by omega)), ht, nI_pred, chk_nI (by omega) (by decide), nI_clamp (by omega), h19 t (by omega), hv _ (hac _ (getD_mem (by omega))), bp_some, m_better hV hR he, bp_some, show t + 1 - 1 = t from rfl]
          cases vBet V e (nI (V.va (acc.getD t 0))) (nI (V.va (l.getD i 0)))
          · simp [c0]
          · simp [c0]
      by_cases c : acc ≠ [] ∧ vBet V e (nI (V.va (acc.getD (acc.length - 1) 0))) (nI (V.va (l.getD i 0))) = true
      · rw [if_pos c] at hone
        obtain ⟨M', q1, q2, q3, q4⟩ := ih f (i + 1) M acc (by omega) (by omega) hR h20 h18 h19 (by omega) hac
        refine ⟨M', hone.trans q1, ?_, ?_, q4⟩
        · rw [hdr, List.foldl_cons, show chSt V e acc (l.getD i 0) = acc from if_pos c]; exact q2
        · rw [hdr, List.foldl_cons, show chSt V e acc (l.getD i 0) = acc from if_pos c]; exact q3
      · rw [if_neg c] at hone
        obtain ⟨M', q1, q2, q3, q4⟩ := ih f (i + 1) (si (sa M 19 (upd (M.2 19) acc.length (nI (l.getD i 0)))) 20 ((sa M 19 (upd (M.2 19) acc.length (nI (l.getD i 0)))).1 20 + 1)) (acc ++ [l.getD i 0]) (by omega) (by omega) hR (by show M.1 20 + 1 = _; rw [h20, nI_1, List.length_append]; rfl) h18 (hold_push h19) (by rw [List.length_append]; show acc.length + 1 ≤ _; omega) (fun y hy => by
          rcases List.mem_append.mp hy with h | h
          · exact hac y h
          · rw [List.mem_singleton.mp h]; exact hx)
        refine ⟨M', hone.trans q1, ?_, ?_, fI_tr (fI_si (fI_sa fI_rf (by decide)) (by decide)) q4 (by decide) (by decide)⟩
        · rw [hdr, List.foldl_cons, show chSt V e acc (l.getD i 0) = acc ++ [l.getD i 0] from if_neg c]; exact q2
        · rw [hdr, List.foldl_cons, show chSt V e acc (l.getD i 0) = acc ++ [l.getD i 0] from if_neg c]; exact q3
theorem m_layChain {V : VW} (hV : VOK V) {M : MS} {e s : Nat} {d : Int32} (he : e < V.ne) (hs : s < 22) (hR : tR V (M.2 0)) {L : List Nat} (hL : srt V L) (hm : ∀ y, y ∈ L ↔ y < V.n) (hn : L.length = V.n) : ∃ M' : MS, f_X12_layChain M (nI e) (nI s) d = some M' ∧ M'.1 20 = nI ((L.filter (vSel V (M.1 21) (M.1 22) e s d)).foldl (chSt V e) []).length ∧ hold (M'.2 19) ((L.filter (vSel V (M.1 21) (M.1 22) e s d)).foldl (chSt V e) []) ∧ fI [20] [18, 19] M M' := by
  have h60 := hV.n
  obtain ⟨M1, l, h1, h2, h3, h4, h5, h6⟩ := m_layOrder hV (M := M) (d := d) he hs hR
  have hl : l = L.filter (vSel V (M.1 21) (M.1 22) e s d) := srt_uniq h4 (List.Pairwise.filter _ hL) (fun k => by rw [h5, List.mem_filter, hm])
  have hlen : l.length ≤ 60 := by rw [hl]; exact Nat.le_trans (List.length_filter_le _ _) (by omega)
  obtain ⟨M', q1, q2, q3, q4⟩ := m_layC hV he (l := l) (fun y hy => ((h5 y).mp hy).1) hlen l.length FU 0 (si M1 20 0) [] (by omega) (by unfold FU; omega) (by show tR V (M1.2 0); rw [h6.2 0 (by decide)]; exact hR) rfl h3 (fun i h => by cases h) (Nat.le_refl _) (fun y h => by cases h)
  rw [List.drop_zero] at q2 q3
  rw [← hl]
  refine ⟨M', ?_, q2, q3, fI_tr (fI_si (fI_tr (ks := [20]) (ka := [18, 19]) fI_rf h6 (by decide) (by decide)) (by decide)) q4 (by decide) (by decide)⟩
  unfold f_X12_layChain
  rw [h1, bp_some]
  simp only [lt_eq, h2]
  exact q1
