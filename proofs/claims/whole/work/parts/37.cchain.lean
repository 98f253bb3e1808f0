/-! the class's chain: out of its order, that is kept sorted -/
def vNot (V : VW) (ab : Int32) (e s : Nat) (d : Int32) (k : Nat) : Bool := !(nI k == ab) && vList V k e s d
set_option maxRecDepth 100000 in
theorem c_fillC_l1 {V : VW} (hV : VOK V) {e s : Nat} {d ab : Int32} (he : e < V.ne) (hs : s < 22) {l : List Nat} (hl : ∀ y ∈ l, y < V.n) (hn : l.length = V.n) : ∀ (m fuel i : Nat) (S : CS) (acc : List Nat), i + m = l.length → m < fuel → tC V S → hold (S.2.1 24) l → S.1 21 = nI acc.length → hold (S.2.1 37) acc → acc.length ≤ i → (∀ y ∈ acc, y < V.n ∧ V.ev y = e) → ∃ S' : CS, L_X7_fillWithChain_l1_8 (nI e) (nI s) d ab (fun S => some S) fuel S (nI i) = some S' ∧ S'.1 21 = nI (((l.drop i).filter (vNot V ab e s d)).foldl (chSt V e) acc).length ∧ hold (S'.2.1 37) (((l.drop i).filter (vNot V ab e s d)).foldl (chSt V e) acc) ∧ gI [21] [37] S S' := by
  have h60 := hV.n
  intro m
  induction m with
  | zero =>
    intro fuel i S acc hi hf hS h24 h21 h37 hle hac
    cases fuel with
    | zero => omega
    | succ f =>
      refine ⟨S, ?_, ?_, ?_, gI_rf⟩
      · unfold L_X7_fillWithChain_l1_8
        rw [lo2_succ, hS.n, if_pos ((nI_leI (by omega) (by omega)).mpr (by omega))]
      · rw [List.drop_eq_nil_of_le (by omega)]; exact h21
      · rw [List.drop_eq_nil_of_le (by omega)]; exact h37
  | succ m ih =>
    intro fuel i S acc hi hf hS h24 h21 h37 hle hac
    cases fuel with
    | zero => omega
    | succ f =>
      have hil : i < l.length := by omega
      have hx : l.getD i 0 < V.n := hl _ (getD_mem hil)
      have hdr : l.drop i = l.getD i 0 :: l.drop (i + 1) := by
        rw [List.drop_eq_getElem_cons hil, List.getD_eq_getElem?_getD, List.getElem?_eq_getElem hil]; rfl
      have happ : f_X7_append_l1 S (nI (l.getD i 0)) = some (ci (ca S 37 (upd (S.2.1 37) acc.length (nI (l.getD i 0)))) 21 ((ca S 37 (upd (S.2.1 37) acc.length (nI (l.getD i 0)))).1 21 + 1)) := by
        unfold f_X7_append_l1
        rw [h21, if_neg (fun h => by rw [show (60 : Int32) = nI 60 from rfl, nI_leI (by omega) (by omega)] at h; omega), chk_nI (by omega) (by decide), nI_clamp (by omega)]
        rfl
      have hone : L_X7_fillWithChain_l1_8 (nI e) (nI s) d ab (fun S => some S) (f + 1) S (nI i) = (if vNot V ab e s d (l.getD i 0) = true ∧ ¬ (acc ≠ [] ∧ vBet V e (nI (V.va (acc.getD (acc.length - 1) 0))) (nI (V.va (l.getD i 0))) = true) then L_X7_fillWithChain_l1_8 (nI e) (nI s) d ab (fun S => some S) f (ci (ca S 37 (upd (S.2.1 37) acc.length (nI (l.getD i 0)))) 21 ((ca S 37 (upd (S.2.1 37) acc.length (nI (l.getD i 0)))).1 21 + 1)) (nI (i + 1)) else L_X7_fillWithChain_l1_8 (nI e) (nI s) d ab (fun S => some S) f S (nI (i + 1))) := by
        unfold L_X7_fillWithChain_l1_8
        rw [lo2_succ, hS.n, if_neg (fun h => by rw [nI_leI (by omega) (by omega)] at h; omega)]
        simp only [lt_eq, jn0, nI_1, h21, nI_clamp (show i < 2 ^ 31 by omega), h24 i hil, chk_nI (show i < 60 by omega) (by decide), c_listed hV hS hx he hs, happ, bp_some]
        unfold vNot
        by_cases c1 : nI (l.getD i 0) = ab
        · simp [c1]
        · cases c2 : vList V (l.getD i 0) e s d
          · simp [c1]
          · by_cases c0 : acc = []
            · subst c0
              rw [if_neg c1, if_pos rfl, if_pos (show nI ([] : List Nat).length = 0 by decide)]
              simp [c1]
            · have hp : 0 < acc.length := List.length_pos_iff.mpr c0
              obtain ⟨t, ht⟩ : ∃ t, acc.length = t + 1 := ⟨acc.length - 1, by omega⟩
              have hyt := hac _ (getD_mem (l := acc) (i := t) (by omega))
              rw [if_neg c1, if_pos rfl, if_neg (nI_ne0 hp (by omega)), ht, nI_pred, chk_nI (by omega) (by decide), nI_clamp (by omega), h37 t (by omega), c_better hV hS hyt.1 hx, bp_some, show t + 1 - 1 = t from rfl]
              unfold vBetM
              rw [hyt.2]
              cases vBet V e (nI (V.va (acc.getD t 0))) (nI (V.va (l.getD i 0)))
              · simp [c0, c1]
              · simp [c0, c1]
      by_cases c : vNot V ab e s d (l.getD i 0) = true
      · by_cases c' : acc ≠ [] ∧ vBet V e (nI (V.va (acc.getD (acc.length - 1) 0))) (nI (V.va (l.getD i 0))) = true
        · rw [if_neg (fun h => h.2 c')] at hone
          obtain ⟨S', q1, q2, q3, q4⟩ := ih f (i + 1) S acc (by omega) (by omega) hS h24 h21 h37 (by omega) hac
          refine ⟨S', hone.trans q1, ?_, ?_, q4⟩
          · rw [hdr, List.filter_cons_of_pos c, List.foldl_cons, show chSt V e acc (l.getD i 0) = acc from if_pos c']; exact q2
          · rw [hdr, List.filter_cons_of_pos c, List.foldl_cons, show chSt V e acc (l.getD i 0) = acc from if_pos c']; exact q3
        · rw [if_pos ⟨c, c'⟩] at hone
          have hev : V.ev (l.getD i 0) = e := by
            have := c
            unfold vNot vList at this
            simp at this
            exact this.2.1.1
          obtain ⟨S', q1, q2, q3, q4⟩ := ih f (i + 1) (ci (ca S 37 (upd (S.2.1 37) acc.length (nI (l.getD i 0)))) 21 ((ca S 37 (upd (S.2.1 37) acc.length (nI (l.getD i 0)))).1 21 + 1)) (acc ++ [l.getD i 0]) (by omega) (by omega) hS h24 (by show S.1 21 + 1 = _; rw [h21, nI_1, List.length_append]; rfl) (hold_push h37) (by rw [List.length_append]; show acc.length + 1 ≤ _; omega) (fun y hy => by
            rcases List.mem_append.mp hy with h | h
            · exact hac y h
            · rw [List.mem_singleton.mp h]; exact ⟨hx, hev⟩)
          refine ⟨S', hone.trans q1, ?_, ?_, gI_tr (gI_ci (gI_ca gI_rf (by decide)) (by decide)) q4 (by decide) (by decide)⟩
          · rw [hdr, List.filter_cons_of_pos c, List.foldl_cons, show chSt V e acc (l.getD i 0) = acc ++ [l.getD i 0] from if_neg c']; exact q2
          · rw [hdr, List.filter_cons_of_pos c, List.foldl_cons, show chSt V e acc (l.getD i 0) = acc ++ [l.getD i 0] from if_neg c']; exact q3
      · rw [if_neg (fun h => c h.1)] at hone
        obtain ⟨S', q1, q2, q3, q4⟩ := ih f (i + 1) S acc (by omega) (by omega) hS h24 h21 h37 (by omega) hac
        refine ⟨S', hone.trans q1, ?_, ?_, q4⟩
        · rw [hdr, List.filter_cons_of_neg c]; exact q2
        · rw [hdr, List.filter_cons_of_neg c]; exact q3
theorem c_fillChain_l1 {V : VW} (hV : VOK V) {S : CS} {e s : Nat} {d ab : Int32} (he : e < V.ne) (hs : s < 22) (hS : tC V S) {L : List Nat} (hm : ∀ y ∈ L, y < V.n) (hn : L.length = V.n) (h24 : hold (S.2.1 24) L) : ∃ S' : CS, f_X7_fillWithChain_l1 S (nI e) (nI s) d ab = some S' ∧ S'.1 21 = nI ((L.filter (vNot V ab e s d)).foldl (chSt V e) []).length ∧ hold (S'.2.1 37) ((L.filter (vNot V ab e s d)).foldl (chSt V e) []) ∧ gI [21] [37] S S' := by
  have h60 := hV.n
  obtain ⟨S', q1, q2, q3, q4⟩ := c_fillC_l1 hV (d := d) (ab := ab) he hs hm hn L.length FU 0 (ci S 21 0) [] (by omega) (by unfold FU; omega) hS h24 rfl (fun i h => by cases h) (Nat.le_refl _) (fun y h => by cases h)
  rw [List.drop_zero] at q2 q3
  exact ⟨S', q1, q2, q3, gI_tr (gI_ci gI_rf (by decide)) q4 (by decide) (by decide)⟩
set_option maxRecDepth 100000 in
theorem c_fillC_l2 {V : VW} (hV : VOK V) {e s : Nat} {d ab : Int32} (he : e < V.ne) (hs : s < 22) {l : List Nat} (hl : ∀ y ∈ l, y < V.n) (hn : l.length = V.n) : ∀ (m fuel i : Nat) (S : CS) (acc : List Nat), i + m = l.length → m < fuel → tC V S → hold (S.2.1 24) l → S.1 22 = nI acc.length → hold (S.2.1 40) acc → acc.length ≤ i → (∀ y ∈ acc, y < V.n ∧ V.ev y = e) → ∃ S' : CS, L_X7_fillWithChain_l2_8 (nI e) (nI s) d ab (fun S => some S) fuel S (nI i) = some S' ∧ S'.1 22 = nI (((l.drop i).filter (vNot V ab e s d)).foldl (chSt V e) acc).length ∧ hold (S'.2.1 40) (((l.drop i).filter (vNot V ab e s d)).foldl (chSt V e) acc) ∧ gI [22] [40] S S' := by
  have h60 := hV.n
  intro m
  induction m with
  | zero =>
    intro fuel i S acc hi hf hS h24 h21 h37 hle hac
    cases fuel with
    | zero => omega
    | succ f =>
      refine ⟨S, ?_, ?_, ?_, gI_rf⟩
      · unfold L_X7_fillWithChain_l2_8
        rw [lo2_succ, hS.n, if_pos ((nI_leI (by omega) (by omega)).mpr (by omega))]
      · rw [List.drop_eq_nil_of_le (by omega)]; exact h21
      · rw [List.drop_eq_nil_of_le (by omega)]; exact h37
  | succ m ih =>
    intro fuel i S acc hi hf hS h24 h21 h37 hle hac
    cases fuel with
    | zero => omega
    | succ f =>
      have hil : i < l.length := by omega
      have hx : l.getD i 0 < V.n := hl _ (getD_mem hil)
      have hdr : l.drop i = l.getD i 0 :: l.drop (i + 1) := by
        rw [List.drop_eq_getElem_cons hil, List.getD_eq_getElem?_getD, List.getElem?_eq_getElem hil]; rfl
      have happ : f_X7_append_l2 S (nI (l.getD i 0)) = some (ci (ca S 40 (upd (S.2.1 40) acc.length (nI (l.getD i 0)))) 22 ((ca S 40 (upd (S.2.1 40) acc.length (nI (l.getD i 0)))).1 22 + 1)) := by
        unfold f_X7_append_l2
        rw [h21, if_neg (fun h => by rw [show (60 : Int32) = nI 60 from rfl, nI_leI (by omega) (by omega)] at h; omega), chk_nI (by omega) (by decide), nI_clamp (by omega)]
        rfl
      have hone : L_X7_fillWithChain_l2_8 (nI e) (nI s) d ab (fun S => some S) (f + 1) S (nI i) = (if vNot V ab e s d (l.getD i 0) = true ∧ ¬ (acc ≠ [] ∧ vBet V e (nI (V.va (acc.getD (acc.length - 1) 0))) (nI (V.va (l.getD i 0))) = true) then L_X7_fillWithChain_l2_8 (nI e) (nI s) d ab (fun S => some S) f (ci (ca S 40 (upd (S.2.1 40) acc.length (nI (l.getD i 0)))) 22 ((ca S 40 (upd (S.2.1 40) acc.length (nI (l.getD i 0)))).1 22 + 1)) (nI (i + 1)) else L_X7_fillWithChain_l2_8 (nI e) (nI s) d ab (fun S => some S) f S (nI (i + 1))) := by
        unfold L_X7_fillWithChain_l2_8
        rw [lo2_succ, hS.n, if_neg (fun h => by rw [nI_leI (by omega) (by omega)] at h; omega)]
        simp only [lt_eq, jn0, nI_1, h21, nI_clamp (show i < 2 ^ 31 by omega), h24 i hil, chk_nI (show i < 60 by omega) (by decide), c_listed hV hS hx he hs, happ, bp_some]
        unfold vNot
        by_cases c1 : nI (l.getD i 0) = ab
        · simp [c1]
        · cases c2 : vList V (l.getD i 0) e s d
          · simp [c1]
          · by_cases c0 : acc = []
            · subst c0
              rw [if_neg c1, if_pos rfl, if_pos (show nI ([] : List Nat).length = 0 by decide)]
              simp [c1]
            · have hp : 0 < acc.length := List.length_pos_iff.mpr c0
              obtain ⟨t, ht⟩ : ∃ t, acc.length = t + 1 := ⟨acc.length - 1, by omega⟩
              have hyt := hac _ (getD_mem (l := acc) (i := t) (by omega))
              rw [if_neg c1, if_pos rfl, if_neg (nI_ne0 hp (by omega)), ht, nI_pred, chk_nI (by omega) (by decide), nI_clamp (by omega), h37 t (by omega), c_better hV hS hyt.1 hx, bp_some, show t + 1 - 1 = t from rfl]
              unfold vBetM
              rw [hyt.2]
              cases vBet V e (nI (V.va (acc.getD t 0))) (nI (V.va (l.getD i 0)))
              · simp [c0, c1]
              · simp [c0, c1]
      by_cases c : vNot V ab e s d (l.getD i 0) = true
      · by_cases c' : acc ≠ [] ∧ vBet V e (nI (V.va (acc.getD (acc.length - 1) 0))) (nI (V.va (l.getD i 0))) = true
        · rw [if_neg (fun h => h.2 c')] at hone
          obtain ⟨S', q1, q2, q3, q4⟩ := ih f (i + 1) S acc (by omega) (by omega) hS h24 h21 h37 (by omega) hac
          refine ⟨S', hone.trans q1, ?_, ?_, q4⟩
          · rw [hdr, List.filter_cons_of_pos c, List.foldl_cons, show chSt V e acc (l.getD i 0) = acc from if_pos c']; exact q2
          · rw [hdr, List.filter_cons_of_pos c, List.foldl_cons, show chSt V e acc (l.getD i 0) = acc from if_pos c']; exact q3
        · rw [if_pos ⟨c, c'⟩] at hone
          have hev : V.ev (l.getD i 0) = e := by
            have := c
            unfold vNot vList at this
            simp at this
            exact this.2.1.1
          obtain ⟨S', q1, q2, q3, q4⟩ := ih f (i + 1) (ci (ca S 40 (upd (S.2.1 40) acc.length (nI (l.getD i 0)))) 22 ((ca S 40 (upd (S.2.1 40) acc.length (nI (l.getD i 0)))).1 22 + 1)) (acc ++ [l.getD i 0]) (by omega) (by omega) hS h24 (by show S.1 22 + 1 = _; rw [h21, nI_1, List.length_append]; rfl) (hold_push h37) (by rw [List.length_append]; show acc.length + 1 ≤ _; omega) (fun y hy => by
            rcases List.mem_append.mp hy with h | h
            · exact hac y h
            · rw [List.mem_singleton.mp h]; exact ⟨hx, hev⟩)
          refine ⟨S', hone.trans q1, ?_, ?_, gI_tr (gI_ci (gI_ca gI_rf (by decide)) (by decide)) q4 (by decide) (by decide)⟩
          · rw [hdr, List.filter_cons_of_pos c, List.foldl_cons, show chSt V e acc (l.getD i 0) = acc ++ [l.getD i 0] from if_neg c']; exact q2
          · rw [hdr, List.filter_cons_of_pos c, List.foldl_cons, show chSt V e acc (l.getD i 0) = acc ++ [l.getD i 0] from if_neg c']; exact q3
      · rw [if_neg (fun h => c h.1)] at hone
        obtain ⟨S', q1, q2, q3, q4⟩ := ih f (i + 1) S acc (by omega) (by omega) hS h24 h21 h37 (by omega) hac
        refine ⟨S', hone.trans q1, ?_, ?_, q4⟩
        · rw [hdr, List.filter_cons_of_neg c]; exact q2
        · rw [hdr, List.filter_cons_of_neg c]; exact q3
theorem c_fillChain_l2 {V : VW} (hV : VOK V) {S : CS} {e s : Nat} {d ab : Int32} (he : e < V.ne) (hs : s < 22) (hS : tC V S) {L : List Nat} (hm : ∀ y ∈ L, y < V.n) (hn : L.length = V.n) (h24 : hold (S.2.1 24) L) : ∃ S' : CS, f_X7_fillWithChain_l2 S (nI e) (nI s) d ab = some S' ∧ S'.1 22 = nI ((L.filter (vNot V ab e s d)).foldl (chSt V e) []).length ∧ hold (S'.2.1 40) ((L.filter (vNot V ab e s d)).foldl (chSt V e) []) ∧ gI [22] [40] S S' := by
  have h60 := hV.n
  obtain ⟨S', q1, q2, q3, q4⟩ := c_fillC_l2 hV (d := d) (ab := ab) he hs hm hn L.length FU 0 (ci S 22 0) [] (by omega) (by unfold FU; omega) hS h24 rfl (fun i h => by cases h) (Nat.le_refl _) (fun y h => by cases h)
  rw [List.drop_zero] at q2 q3
  exact ⟨S', q1, q2, q3, gI_tr (gI_ci gI_rf (by decide)) q4 (by decide) (by decide)⟩
