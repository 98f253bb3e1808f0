/-! the class's chain: out of its order, that is kept sorted -/
def vNot (V : VW) (ab : Int32) (e s : Nat) (d : Int32) (k : Nat) : Bool := !(nI k == ab) && vList V k e s d
theorem tC_fr {V : VW} {S S' : CS} (h : tC V S) (h1 : ∀ k, k ∈ [0, 6, 7, 8, 9] → S'.1 k = S.1 k) (h2 : ∀ k, k ∈ [5, 6, 8, 9, 11, 12, 13, 14, 15, 16, 17, 18, 19, 20, 21, 22, 23] → S'.2.1 k = S.2.1 k) : tC V S' := by
  unfold tC at *
  rw [h1 0 (by decide), h1 6 (by decide), h1 7 (by decide), h1 8 (by decide), h1 9 (by decide), h2 5 (by decide), h2 6 (by decide), h2 8 (by decide), h2 9 (by decide), h2 11 (by decide), h2 12 (by decide), h2 13 (by decide), h2 14 (by decide), h2 15 (by decide), h2 16 (by decide), h2 17 (by decide), h2 18 (by decide), h2 19 (by decide), h2 20 (by decide), h2 21 (by decide), h2 22 (by decide), h2 23 (by decide)]
  exact h
theorem tC_gI {V : VW} {S S' : CS} {ks ka : List Nat} (h : tC V S) (hg : gI ks ka S S') (h1 : ∀ k, k ∈ [0, 6, 7, 8, 9] → k ∉ ks) (h2 : ∀ k, k ∈ [5, 6, 8, 9, 11, 12, 13, 14, 15, 16, 17, 18, 19, 20, 21, 22, 23] → k ∉ ka) : tC V S' := tC_fr h (fun k hk => hg.1 k (h1 k hk)) (fun k hk => hg.2.1 k (h2 k hk))
theorem take_s {L : List Nat} {i : Nat} (h : i < L.length) : L.take (i + 1) = L.take i ++ [L.getD i 0] := by
  rw [List.take_succ_eq_append_getElem h, List.getD_eq_getElem?_getD, List.getElem?_eq_getElem h]; rfl
theorem selS {V : VW} {ab : Int32} {e s : Nat} {d : Int32} {L : List Nat} {i : Nat} (h : i < L.length) : ((L.take (i + 1)).filter (vNot V ab e s d)).foldl (chSt V e) [] = if vNot V ab e s d (L.getD i 0) = true then chSt V e (((L.take i).filter (vNot V ab e s d)).foldl (chSt V e) []) (L.getD i 0) else ((L.take i).filter (vNot V ab e s d)).foldl (chSt V e) [] := by
  rw [take_s h, List.filter_append, List.foldl_append]
  by_cases c : vNot V ab e s d (L.getD i 0) = true
  · rw [List.filter_cons_of_pos c, if_pos c]; rfl
  · rw [List.filter_cons_of_neg c, if_neg c]; rfl
theorem chSt_len {V : VW} {e : Nat} {acc : List Nat} {k : Nat} : (chSt V e acc k).length ≤ acc.length + 1 := by
  unfold chSt
  split
  · omega
  · rw [List.length_append]; exact Nat.le_refl _
theorem selB {V : VW} {ab : Int32} {e s : Nat} {d : Int32} {L : List Nat} (hm : ∀ y ∈ L, y < V.n) (hn : L.length = V.n) : ∀ i, (((L.take i).filter (vNot V ab e s d)).foldl (chSt V e) []).length ≤ i ∧ ∀ y ∈ ((L.take i).filter (vNot V ab e s d)).foldl (chSt V e) [], y < V.n ∧ V.ev y = e := by
  intro i
  induction i with
  | zero => exact ⟨Nat.le_refl _, fun y hy => by cases hy⟩
  | succ i ih =>
    by_cases hi : i < L.length
    · rw [selS hi]
      by_cases c : vNot V ab e s d (L.getD i 0) = true
      · rw [if_pos c]
        refine ⟨Nat.le_trans chSt_len (by omega), ?_⟩
        intro y hy
        unfold chSt at hy
        split at hy
        · exact ih.2 y hy
        · rcases List.mem_append.mp hy with h | h
          · exact ih.2 y h
          · rw [List.mem_singleton.mp h]
            refine ⟨hm _ (getD_mem hi), ?_⟩
            unfold vNot vList at c
            simp only [Bool.and_eq_true, decide_eq_true_eq] at c
            exact c.2.1.1
      · rw [if_neg c]
        exact ⟨by omega, ih.2⟩
    · rw [List.take_of_length_le (by omega)]
      rw [List.take_of_length_le (by omega)] at ih
      exact ⟨by omega, ih.2⟩
theorem c_fillChain_l1 {V : VW} (hV : VOK V) {S : CS} {e s : Nat} {d ab : Int32} (he : e < V.ne) (hs : s < 22) (hS : tC V S) {L : List Nat} (hm : ∀ y ∈ L, y < V.n) (hn : L.length = V.n) (h24 : hold (S.2.1 24) L) : ∃ S' : CS, f_X7_fillWithChain_l1 S (nI e) (nI s) d ab = some S' ∧ S'.1 21 = nI ((L.filter (vNot V ab e s d)).foldl (chSt V e) []).length ∧ hold (S'.2.1 37) ((L.filter (vNot V ab e s d)).foldl (chSt V e) []) ∧ gI [21] [37] S S' := by
  have h60 := hV.n
  have hb := selB hm hn (V := V) (ab := ab) (e := e) (s := s) (d := d)
  have hf : ((L.take V.n).filter (vNot V ab e s d)).foldl (chSt V e) [] = (L.filter (vNot V ab e s d)).foldl (chSt V e) [] := by rw [List.take_of_length_le (by omega)]
  unfold f_X7_fillWithChain_l1 L_X7_fillWithChain_l1_8
  rw [lt_eq]
  refine lq2 (Q := fun o => ∃ S' : CS, o = some S' ∧ S'.1 21 = nI ((L.filter (vNot V ab e s d)).foldl (chSt V e) []).length ∧ hold (S'.2.1 37) ((L.filter (vNot V ab e s d)).foldl (chSt V e) []) ∧ gI [21] [37] S S') V.n (fun i S1 => gI [21] [37] S S1 ∧ S1.1 21 = nI (((L.take i).filter (vNot V ab e s d)).foldl (chSt V e) []).length ∧ hold (S1.2.1 37) (((L.take i).filter (vNot V ab e s d)).foldl (chSt V e) [])) ?_ 0 rfl (Nat.zero_le _) (FU_gt (by omega)) ⟨gI_ci gI_rf (by decide), rfl, fun i h => by cases h⟩
  rintro i S1 kk hi ⟨hg, hc, hh⟩ hr
  have hS1 : tC V S1 := tC_gI hS hg (by decide) (by decide)
  have h24' : S1.2.1 24 = S.2.1 24 := hg.2.1 24 (by decide)
  have hacc := hb i
  have hc0 := hc
  have hh0 := hh
  have hst := selS (V := V) (ab := ab) (e := e) (s := s) (d := d) (L := L) (i := i)
  generalize ((L.take i).filter (vNot V ab e s d)).foldl (chSt V e) [] = acc at hc hh hacc hst
  by_cases ci' : i < V.n
  · have hil : i < L.length := by omega
    have hx : L.getD i 0 < V.n := hm _ (getD_mem hil)
    have hst := hst hil
    generalize hkx : L.getD i 0 = x at hx hst
    have happ : f_X7_append_l1 S1 (nI x) = some (ci (ca S1 37 (upd (S1.2.1 37) acc.length (nI x))) 21 ((ca S1 37 (upd (S1.2.1 37) acc.length (nI x))).1 21 + 1)) := by
      unfold f_X7_append_l1
      rw [hc, if_neg (fun h => by rw [show (60 : Int32) = nI 60 from rfl, nI_leI (by omega) (by omega)] at h; omega), chk_nI (by omega) (by decide), nI_clamp (by omega)]
      rfl
    have hskip : gI [21] [37] S S1 ∧ S1.1 21 = nI acc.length ∧ hold (S1.2.1 37) acc := ⟨hg, hc, hh⟩
    have hadd : gI [21] [37] S (ci (ca S1 37 (upd (S1.2.1 37) acc.length (nI x))) 21 ((ca S1 37 (upd (S1.2.1 37) acc.length (nI x))).1 21 + 1)) ∧ (ci (ca S1 37 (upd (S1.2.1 37) acc.length (nI x))) 21 ((ca S1 37 (upd (S1.2.1 37) acc.length (nI x))).1 21 + 1)).1 21 = nI (acc ++ [x]).length ∧ hold ((ci (ca S1 37 (upd (S1.2.1 37) acc.length (nI x))) 21 ((ca S1 37 (upd (S1.2.1 37) acc.length (nI x))).1 21 + 1)).2.1 37) (acc ++ [x]) :=
      ⟨gI_ci (gI_ca hg (by decide)) (by decide), by show S1.1 21 + 1 = _; rw [hc, nI_1, List.length_append]; rfl, hold_push hh⟩
    clear hc0 hh0
    simp only [lt_eq, jn0, nI_1, hS1.n, hc, nI_clamp (show i < 2 ^ 31 by omega), h24', h24 i hil, hkx, chk_nI (show i < 60 by omega) (by decide), c_listed hV hS1 hx he hs, happ, bp_some]
    rw [if_neg (fun h => by rw [nI_leI (by omega) (by omega)] at h; omega)]
    have hr := fun a => hr a ci'
    rw [hst] at hr
    unfold vNot at hr
    by_cases c1 : nI x = ab
    · rw [if_pos c1]
      refine hr S1 ?_
      rw [beq_iff_eq.mpr c1]; exact hskip
    · rw [if_neg c1]
      rw [beq_eq_false_iff_ne.mpr c1] at hr
      cases c2 : vList V x e s d with
      | false =>
        rw [c2] at hr
        exact hr S1 hskip
      | true =>
        rw [c2] at hr
        rw [if_pos rfl]
        simp only [Bool.not_false, Bool.and_self, if_true] at hr
        unfold chSt at hr
        by_cases c0 : acc = []
        · rw [if_pos (show nI acc.length = 0 by rw [c0]; rfl)]
          refine hr _ ?_
          rw [if_neg (fun h => h.1 c0)]; exact hadd
        · have hp : 0 < acc.length := List.length_pos_iff.mpr c0
          obtain ⟨t, ht⟩ : ∃ t, acc.length = t + 1 := ⟨acc.length - 1, by omega⟩
          have hyt := hacc.2 _ (getD_mem (l := acc) (i := t) (by omega))
          rw [if_neg (nI_ne0 hp (by omega)), ht, nI_pred, chk_nI (by omega) (by decide), nI_clamp (by omega), hh t (by omega), c_better hV hS1 hyt.1 hx, bp_some]
          unfold vBetM
          rw [hyt.2]
          rw [ht, show t + 1 - 1 = t from rfl] at hr
          cases c3 : vBet V e (nI (V.va (acc.getD t 0))) (nI (V.va x)) with
          | true =>
            rw [c3] at hr
            rw [if_pos rfl]
            refine hr S1 ?_
            rw [if_pos ⟨c0, rfl⟩]; exact hskip
          | false =>
            rw [c3] at hr
            rw [if_neg (fun h => by cases h)]
            rw [ht] at hadd
            refine hr _ ?_
            rw [if_neg (fun h => by cases h.2)]; exact hadd
  · have hin : i = V.n := by omega
    subst hin
    rw [hS1.n, if_pos ((nI_leI (by omega) (by omega)).mpr (Nat.le_refl _))]
    rw [← hf]
    exact ⟨S1, rfl, hc0, hh0, hg⟩
theorem c_fillChain_l2 {V : VW} (hV : VOK V) {S : CS} {e s : Nat} {d ab : Int32} (he : e < V.ne) (hs : s < 22) (hS : tC V S) {L : List Nat} (hm : ∀ y ∈ L, y < V.n) (hn : L.length = V.n) (h24 : hold (S.2.1 24) L) : ∃ S' : CS, f_X7_fillWithChain_l2 S (nI e) (nI s) d ab = some S' ∧ S'.1 22 = nI ((L.filter (vNot V ab e s d)).foldl (chSt V e) []).length ∧ hold (S'.2.1 40) ((L.filter (vNot V ab e s d)).foldl (chSt V e) []) ∧ gI [22] [40] S S' := by
  have h60 := hV.n
  have hb := selB hm hn (V := V) (ab := ab) (e := e) (s := s) (d := d)
  have hf : ((L.take V.n).filter (vNot V ab e s d)).foldl (chSt V e) [] = (L.filter (vNot V ab e s d)).foldl (chSt V e) [] := by rw [List.take_of_length_le (by omega)]
  unfold f_X7_fillWithChain_l2 L_X7_fillWithChain_l2_8
  rw [lt_eq]
  refine lq2 (Q := fun o => ∃ S' : CS, o = some S' ∧ S'.1 22 = nI ((L.filter (vNot V ab e s d)).foldl (chSt V e) []).length ∧ hold (S'.2.1 40) ((L.filter (vNot V ab e s d)).foldl (chSt V e) []) ∧ gI [22] [40] S S') V.n (fun i S1 => gI [22] [40] S S1 ∧ S1.1 22 = nI (((L.take i).filter (vNot V ab e s d)).foldl (chSt V e) []).length ∧ hold (S1.2.1 40) (((L.take i).filter (vNot V ab e s d)).foldl (chSt V e) [])) ?_ 0 rfl (Nat.zero_le _) (FU_gt (by omega)) ⟨gI_ci gI_rf (by decide), rfl, fun i h => by cases h⟩
  rintro i S1 kk hi ⟨hg, hc, hh⟩ hr
  have hS1 : tC V S1 := tC_gI hS hg (by decide) (by decide)
  have h24' : S1.2.1 24 = S.2.1 24 := hg.2.1 24 (by decide)
  have hacc := hb i
  have hc0 := hc
  have hh0 := hh
  have hst := selS (V := V) (ab := ab) (e := e) (s := s) (d := d) (L := L) (i := i)
  generalize ((L.take i).filter (vNot V ab e s d)).foldl (chSt V e) [] = acc at hc hh hacc hst
  by_cases ci' : i < V.n
  · have hil : i < L.length := by omega
    have hx : L.getD i 0 < V.n := hm _ (getD_mem hil)
    have hst := hst hil
    generalize hkx : L.getD i 0 = x at hx hst
    have happ : f_X7_append_l2 S1 (nI x) = some (ci (ca S1 40 (upd (S1.2.1 40) acc.length (nI x))) 22 ((ca S1 40 (upd (S1.2.1 40) acc.length (nI x))).1 22 + 1)) := by
      unfold f_X7_append_l2
      rw [hc, if_neg (fun h => by rw [show (60 : Int32) = nI 60 from rfl, nI_leI (by omega) (by omega)] at h; omega), chk_nI (by omega) (by decide), nI_clamp (by omega)]
      rfl
    have hskip : gI [22] [40] S S1 ∧ S1.1 22 = nI acc.length ∧ hold (S1.2.1 40) acc := ⟨hg, hc, hh⟩
    have hadd : gI [22] [40] S (ci (ca S1 40 (upd (S1.2.1 40) acc.length (nI x))) 22 ((ca S1 40 (upd (S1.2.1 40) acc.length (nI x))).1 22 + 1)) ∧ (ci (ca S1 40 (upd (S1.2.1 40) acc.length (nI x))) 22 ((ca S1 40 (upd (S1.2.1 40) acc.length (nI x))).1 22 + 1)).1 22 = nI (acc ++ [x]).length ∧ hold ((ci (ca S1 40 (upd (S1.2.1 40) acc.length (nI x))) 22 ((ca S1 40 (upd (S1.2.1 40) acc.length (nI x))).1 22 + 1)).2.1 40) (acc ++ [x]) :=
      ⟨gI_ci (gI_ca hg (by decide)) (by decide), by show S1.1 22 + 1 = _; rw [hc, nI_1, List.length_append]; rfl, hold_push hh⟩
    clear hc0 hh0
    simp only [lt_eq, jn0, nI_1, hS1.n, hc, nI_clamp (show i < 2 ^ 31 by omega), h24', h24 i hil, hkx, chk_nI (show i < 60 by omega) (by decide), c_listed hV hS1 hx he hs, happ, bp_some]
    rw [if_neg (fun h => by rw [nI_leI (by omega) (by omega)] at h; omega)]
    have hr := fun a => hr a ci'
    rw [hst] at hr
    unfold vNot at hr
    by_cases c1 : nI x = ab
    · rw [if_pos c1]
      refine hr S1 ?_
      rw [beq_iff_eq.mpr c1]; exact hskip
    · rw [if_neg c1]
      rw [beq_eq_false_iff_ne.mpr c1] at hr
      cases c2 : vList V x e s d with
      | false =>
        rw [c2] at hr
        exact hr S1 hskip
      | true =>
        rw [c2] at hr
        rw [if_pos rfl]
        simp only [Bool.not_false, Bool.and_self, if_true] at hr
        unfold chSt at hr
        by_cases c0 : acc = []
        · rw [if_pos (show nI acc.length = 0 by rw [c0]; rfl)]
          refine hr _ ?_
          rw [if_neg (fun h => h.1 c0)]; exact hadd
        · have hp : 0 < acc.length := List.length_pos_iff.mpr c0
          obtain ⟨t, ht⟩ : ∃ t, acc.length = t + 1 := ⟨acc.length - 1, by omega⟩
          have hyt := hacc.2 _ (getD_mem (l := acc) (i := t) (by omega))
          rw [if_neg (nI_ne0 hp (by omega)), ht, nI_pred, chk_nI (by omega) (by decide), nI_clamp (by omega), hh t (by omega), c_better hV hS1 hyt.1 hx, bp_some]
          unfold vBetM
          rw [hyt.2]
          rw [ht, show t + 1 - 1 = t from rfl] at hr
          cases c3 : vBet V e (nI (V.va (acc.getD t 0))) (nI (V.va x)) with
          | true =>
            rw [c3] at hr
            rw [if_pos rfl]
            refine hr S1 ?_
            rw [if_pos ⟨c0, rfl⟩]; exact hskip
          | false =>
            rw [c3] at hr
            rw [if_neg (fun h => by cases h)]
            rw [ht] at hadd
            refine hr _ ?_
            rw [if_neg (fun h => by cases h.2)]; exact hadd
  · have hin : i = V.n := by omega
    subst hin
    rw [hS1.n, if_pos ((nI_leI (by omega) (by omega)).mpr (Nat.le_refl _))]
    rw [← hf]
    exact ⟨S1, rfl, hc0, hh0, hg⟩
