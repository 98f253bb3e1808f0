/-! the chain: its facts, and how both sides fill their line with it -/
theorem vBet_irr {V : VW} {e : Nat} {x : Int32} : vBet V e x x = false := by
  unfold vBet
  split
  · rw [decide_eq_false_iff_not, Int32.lt_iff_toInt_lt]; omega
  · rw [decide_eq_false_iff_not, Int32.lt_iff_toInt_lt]; omega
theorem vBet_tr {V : VW} {e : Nat} {x y z : Int32} (h1 : vBet V e x y = false) (h2 : vBet V e y z = false) : vBet V e x z = false := by
  unfold vBet at *
  by_cases c : V.e0 e = 0
  · rw [if_pos c] at *; rw [decide_eq_false_iff_not, Int32.lt_iff_toInt_lt] at *; omega
  · rw [if_neg c] at *; rw [decide_eq_false_iff_not, Int32.lt_iff_toInt_lt] at *; omega
theorem vBet_as {V : VW} {e : Nat} {x y : Int32} (h1 : vBet V e x y = true) : vBet V e y x = false := by
  unfold vBet at *
  by_cases c : V.e0 e = 0
  · rw [if_pos c] at *; rw [decide_eq_true_iff, Int32.lt_iff_toInt_lt] at h1; rw [decide_eq_false_iff_not, Int32.lt_iff_toInt_lt]; omega
  · rw [if_neg c] at *; rw [decide_eq_true_iff, Int32.lt_iff_toInt_lt] at h1; rw [decide_eq_false_iff_not, Int32.lt_iff_toInt_lt]; omega
theorem vBet_n {V : VW} {e x y : Nat} (hx : x < 2 ^ 31) (hy : y < 2 ^ 31) : vBet V e (nI x) (nI y) = (if V.e0 e = 0 then decide (x < y) else decide (y < x)) := by
  unfold vBet
  by_cases c : V.e0 e = 0
  · rw [if_pos c, if_pos c]; exact decide_eq_decide.mpr (nI_ltI hx hy)
  · rw [if_neg c, if_neg c]; exact decide_eq_decide.mpr (nI_ltI hy hx)
def lst (l : List Nat) : Nat := l.getD (l.length - 1) 0
theorem lst_push {l : List Nat} {k : Nat} : lst (l ++ [k]) = k := by
  unfold lst
  rw [List.length_append, List.getD_eq_getElem?_getD, List.getElem?_append_right (by simp)]
  simp
theorem lst_mem {l : List Nat} (h : l ≠ []) : lst l ∈ l := getD_mem (by have := List.length_pos_iff.mpr h; omega)
def chIn (V : VW) (e : Nat) (acc q : List Nat) : Prop := (acc = [] ∧ q = []) ∨ (acc ≠ [] ∧ ∀ j ∈ q, vBet V e (nI (V.va j)) (nI (V.va (lst acc))) = false)
theorem chIn_st {V : VW} {e : Nat} {acc q : List Nat} {k : Nat} (h : chIn V e acc q) : chIn V e (chSt V e acc k) (q ++ [k]) := by
  unfold chSt
  by_cases c : acc ≠ [] ∧ vBet V e (nI (V.va (acc.getD (acc.length - 1) 0))) (nI (V.va k)) = true
  · rw [if_pos c]
    rcases h with ⟨h, _⟩ | ⟨h, hq⟩
    · exact absurd h c.1
    · refine Or.inr ⟨h, ?_⟩
      intro j hj
      rcases List.mem_append.mp hj with hj | hj
      · exact hq j hj
      · rw [List.mem_singleton.mp hj]; exact vBet_as c.2
  · rw [if_neg c]
    refine Or.inr ⟨by simp, ?_⟩
    rw [lst_push]
    intro j hj
    rcases List.mem_append.mp hj with hj | hj
    · rcases h with ⟨h, h2⟩ | ⟨h, hq⟩
      · rw [h2] at hj; cases hj
      · refine vBet_tr (hq j hj) ?_
        cases hb : vBet V e (nI (V.va (lst acc))) (nI (V.va k)) with
        | false => rfl
        | true => exact absurd ⟨h, hb⟩ c
    · rw [List.mem_singleton.mp hj]; exact vBet_irr
theorem chIn_fold {V : VW} {e : Nat} : ∀ (p acc q : List Nat), chIn V e acc q → chIn V e (p.foldl (chSt V e) acc) (q ++ p) := by
  intro p
  induction p with
  | nil => intro acc q h; rw [List.append_nil]; exact h
  | cons k p ih =>
    intro acc q h
    rw [List.foldl_cons, show q ++ k :: p = (q ++ [k]) ++ p by simp]
    exact ih _ _ (chIn_st h)
theorem chSt_mem {V : VW} {e : Nat} {acc : List Nat} {k y : Nat} (hy : y ≠ k) : y ∈ chSt V e acc k ↔ y ∈ acc := by
  unfold chSt
  split
  · exact Iff.rfl
  · rw [List.mem_append, List.mem_singleton]; exact ⟨fun h => h.elim id (fun e => absurd e hy), Or.inl⟩
theorem chF_mem {V : VW} {e : Nat} : ∀ (p acc : List Nat) {y : Nat}, y ∉ p → (y ∈ p.foldl (chSt V e) acc ↔ y ∈ acc) := by
  intro p
  induction p with
  | nil => intro acc y _; exact Iff.rfl
  | cons k p ih =>
    intro acc y h
    rw [List.foldl_cons, ih _ (fun z => h (List.mem_cons_of_mem _ z)), chSt_mem (fun z => h (by rw [z]; exact List.mem_cons_self))]
/-- a mark is in the chain just if none ahead of it is better -/
theorem ch_in {V : VW} {e k : Nat} {p r : List Nat} (hp : k ∉ p) (hr : k ∉ r) : k ∈ (p ++ k :: r).foldl (chSt V e) [] ↔ ∀ j ∈ p, vBet V e (nI (V.va j)) (nI (V.va k)) = false := by
  rw [List.foldl_append, List.foldl_cons, chF_mem _ _ hr]
  have hi := chIn_fold (V := V) (e := e) p [] [] (Or.inl ⟨rfl, rfl⟩)
  rw [List.nil_append] at hi
  have hn : k ∉ p.foldl (chSt V e) [] := fun h => by rw [chF_mem p [] hp] at h; cases h
  unfold chSt at hn ⊢
  by_cases c : List.foldl (chSt V e) [] p ≠ [] ∧ vBet V e (nI (V.va ((List.foldl (chSt V e) [] p).getD ((List.foldl (chSt V e) [] p).length - 1) 0))) (nI (V.va k)) = true
  · unfold chSt at c
    rw [if_pos c]
    refine ⟨fun h => absurd h hn, fun h => ?_⟩
    exfalso
    have hm : lst (List.foldl (chSt V e) [] p) ∈ p := by
      have hl := lst_mem (l := List.foldl (chSt V e) [] p) (by unfold chSt; exact c.1)
      by_cases hz : lst (List.foldl (chSt V e) [] p) ∈ p
      · exact hz
      · rw [chF_mem p [] hz] at hl; cases hl
    have h1 := h _ hm
    have h2 : vBet V e (nI (V.va (lst (List.foldl (chSt V e) [] p)))) (nI (V.va k)) = true := by unfold chSt; exact c.2
    rw [h1] at h2; cases h2
  · unfold chSt at c
    rw [if_neg c]
    refine ⟨fun _ => ?_, fun _ => by simp⟩
    intro j hj
    rcases hi with ⟨_, h2⟩ | ⟨h, hq⟩
    · rw [h2] at hj; cases hj
    · refine vBet_tr (hq j hj) ?_
      cases hb : vBet V e (nI (V.va (lst (List.foldl (chSt V e) [] p)))) (nI (V.va k)) with
      | false => rfl
      | true => exact absurd ⟨by unfold chSt at h; exact h, by unfold chSt at hb; exact hb⟩ c
theorem ch_fold {V : VW} {e : Nat} : ∀ (p acc : List Nat), acc.Pairwise (fun a b => vBet V e (nI (V.va a)) (nI (V.va b)) = false) → (p.foldl (chSt V e) acc).Pairwise (fun a b => vBet V e (nI (V.va a)) (nI (V.va b)) = false) ∧ (p.foldl (chSt V e) acc).Sublist (acc ++ p) := by
  intro p
  induction p with
  | nil => intro acc h; rw [List.append_nil]; exact ⟨h, List.Sublist.refl _⟩
  | cons k p ih =>
    intro acc h
    rw [List.foldl_cons]
    by_cases c : acc ≠ [] ∧ vBet V e (nI (V.va (acc.getD (acc.length - 1) 0))) (nI (V.va k)) = true
    · rw [show chSt V e acc k = acc from if_pos c]
      obtain ⟨h1, h2⟩ := ih acc h
      exact ⟨h1, h2.trans (List.Sublist.append_left (List.sublist_cons_self k p) acc)⟩
    · rw [show chSt V e acc k = acc ++ [k] from if_neg c]
      obtain ⟨h1, h2⟩ := ih (acc ++ [k]) (by
        refine List.pairwise_append.mpr ⟨h, List.pairwise_singleton _ _, ?_⟩
        intro a ha b hb
        rw [List.mem_singleton.mp hb]
        have hne : acc ≠ [] := fun z => by rw [z] at ha; cases ha
        have hlast : vBet V e (nI (V.va (lst acc))) (nI (V.va k)) = false := by
          cases hb : vBet V e (nI (V.va (lst acc))) (nI (V.va k)) with
          | false => rfl
          | true => exact absurd ⟨hne, hb⟩ c
        have hpos := List.length_pos_iff.mpr hne
        obtain ⟨i, hi, rfl⟩ := List.mem_iff_getElem.mp ha
        have hl : lst acc = acc[acc.length - 1] := by unfold lst; rw [List.getD_eq_getElem?_getD, List.getElem?_eq_getElem (by omega)]; rfl
        by_cases hil : i = acc.length - 1
        · subst hil; rw [← hl]; exact hlast
        · have := List.pairwise_iff_getElem.mp h i (acc.length - 1) hi (by omega) (by omega)
          rw [← hl] at this
          exact vBet_tr this hlast)
      rw [List.append_assoc] at h2
      exact ⟨h1, h2⟩
def ch (V : VW) (L : List Nat) (e s : Nat) (d : Int32) : List Nat := (L.filter (fun k => vList V k e s d)).foldl (chSt V e) []
def cOK (V : VW) (e : Nat) (d : Int32) (l : List Nat) : Prop := (∀ y, y ∈ l → y < V.n) ∧ (∀ y, y ∈ l → V.ev y = e) ∧ (∀ y, y ∈ l → vStand V y d = true) ∧ (l.length ≤ 60) ∧ (srt V l) ∧ (l.Pairwise (fun a b => vBet V e (nI (V.va a)) (nI (V.va b)) = false))
theorem cOK.m {V : VW} {e : Nat} {d : Int32} {l : List Nat} (h : cOK V e d l) : ∀ y, y ∈ l → y < V.n := h.1
theorem cOK.ev {V : VW} {e : Nat} {d : Int32} {l : List Nat} (h : cOK V e d l) : ∀ y, y ∈ l → V.ev y = e := h.2.1
theorem cOK.st {V : VW} {e : Nat} {d : Int32} {l : List Nat} (h : cOK V e d l) : ∀ y, y ∈ l → vStand V y d = true := h.2.2.1
theorem cOK.le {V : VW} {e : Nat} {d : Int32} {l : List Nat} (h : cOK V e d l) : l.length ≤ 60 := h.2.2.2.1
theorem cOK.so {V : VW} {e : Nat} {d : Int32} {l : List Nat} (h : cOK V e d l) : srt V l := h.2.2.2.2.1
theorem cOK.mo {V : VW} {e : Nat} {d : Int32} {l : List Nat} (h : cOK V e d l) : l.Pairwise (fun a b => vBet V e (nI (V.va a)) (nI (V.va b)) = false) := h.2.2.2.2.2
theorem fold_cOK {V : VW} (hV : VOK V) {L : List Nat} (hL : srt V L) (hm : ∀ y, y ∈ L → y < V.n) (hn : L.length ≤ V.n) {e : Nat} {d : Int32} {f : Nat → Bool} (hf : ∀ k, f k = true → V.ev k = e ∧ vStand V k d = true) : cOK V e d ((L.filter f).foldl (chSt V e) []) := by
  obtain ⟨h1, h2⟩ := ch_fold (V := V) (e := e) (L.filter f) [] List.Pairwise.nil
  rw [List.nil_append] at h2
  have h60 := hV.n
  refine ⟨fun y hy => hm y (List.mem_filter.mp (h2.subset hy)).1, fun y hy => (hf y (List.mem_filter.mp (h2.subset hy)).2).1, fun y hy => (hf y (List.mem_filter.mp (h2.subset hy)).2).2, ?_, ?_, h1⟩
  · have := h2.length_le
    have := List.length_filter_le f L
    omega
  · exact List.Pairwise.sublist h2 (List.Pairwise.filter _ hL)
theorem vList_f {V : VW} {e s : Nat} {d : Int32} : ∀ k, (fun k => vList V k e s d) k = true → V.ev k = e ∧ vStand V k d = true := by
  intro k h
  simp only [vList, Bool.and_eq_true, decide_eq_true_eq] at h
  exact ⟨h.1.1, h.1.2⟩
theorem ch_cOK {W : WW} (hw : WOK W) {e s : Nat} {d : Int32} : cOK W.V e d (ch W.V W.L e s d) := fold_cOK hw.V hw.so (fun y hy => (hw.me y).mp hy) (by rw [hw.le]; exact Nat.le_refl _) vList_f
theorem nI_m1 {k : Nat} (h : k < 2 ^ 31) : (nI k == (-1)) = false := by
  rw [beq_eq_false_iff_ne]
  intro e
  have := congrArg Int32.toInt e
  rw [nI_toInt h, show (-1 : Int32).toInt = -1 from rfl] at this
  omega
theorem nI_nm1 {k : Nat} (h : k < 2 ^ 31) : ¬ nI k = -1 := by
  have := nI_m1 h
  rw [beq_eq_false_iff_ne] at this
  exact this
def linC (S : CS) (l : List Nat) : Prop := S.1 21 = nI l.length ∧ hold (S.2.1 37) l
def linD (S : CS) (l : List Nat) : Prop := S.1 22 = nI l.length ∧ hold (S.2.1 40) l
def linM (M : MS) (l : List Nat) : Prop := M.1 20 = nI l.length ∧ hold (M.2 19) l
theorem c_ch1 {W : WW} {S : CS} (hw : WOK W) (hS : tW W S) {e s : Nat} {d : Int32} (he : e < W.V.ne) (hs : s < 22) : ∃ S' : CS, f_X7_fillWithChain_l1 S (nI e) (nI s) d (-1) = some S' ∧ linC S' (ch W.V W.L e s d) ∧ gI [21] [37] S S' := by
  have h60 := hw.V.n
  obtain ⟨S', h1, h2, h3, h4⟩ := c_fillChain_l1 hw.V (d := d) (ab := -1) he hs hS.V (fun y hy => (hw.me y).mp hy) hw.le hS.o
  have ef : W.L.filter (vNot W.V (-1) e s d) = W.L.filter (fun k => vList W.V k e s d) := List.filter_congr (fun k hk => by
    have := (hw.me k).mp hk
    unfold vNot
    rw [nI_m1 (by omega)]; rfl)
  rw [ef] at h2 h3
  exact ⟨S', h1, ⟨h2, h3⟩, h4⟩
theorem c_ch2 {W : WW} {S : CS} (hw : WOK W) (hS : tW W S) {e s : Nat} {d : Int32} (he : e < W.V.ne) (hs : s < 22) : ∃ S' : CS, f_X7_fillWithChain_l2 S (nI e) (nI s) d (-1) = some S' ∧ linD S' (ch W.V W.L e s d) ∧ gI [22] [40] S S' := by
  have h60 := hw.V.n
  obtain ⟨S', h1, h2, h3, h4⟩ := c_fillChain_l2 hw.V (d := d) (ab := -1) he hs hS.V (fun y hy => (hw.me y).mp hy) hw.le hS.o
  have ef : W.L.filter (vNot W.V (-1) e s d) = W.L.filter (fun k => vList W.V k e s d) := List.filter_congr (fun k hk => by
    have := (hw.me k).mp hk
    unfold vNot
    rw [nI_m1 (by omega)]; rfl)
  rw [ef] at h2 h3
  exact ⟨S', h1, ⟨h2, h3⟩, h4⟩
theorem m_ch {W : WW} {M : MS} (hw : WOK W) (hR : tR W.V (M.2 0)) (h21 : M.1 21 = -1) (h22 : M.1 22 = -1) {e s : Nat} {d : Int32} (he : e < W.V.ne) (hs : s < 22) : ∃ M' : MS, f_X12_layChain M (nI e) (nI s) d = some M' ∧ linM M' (ch W.V W.L e s d) ∧ fI [20] [18, 19] M M' := by
  have h60 := hw.V.n
  obtain ⟨M', h1, h2, h3, h4⟩ := m_layChain hw.V (M := M) (d := d) he hs hR hw.so hw.me hw.le
  have ef : W.L.filter (vSel W.V (M.1 21) (M.1 22) e s d) = W.L.filter (fun k => vList W.V k e s d) := List.filter_congr (fun k hk => by
    have := (hw.me k).mp hk
    unfold vSel vList
    rw [h21, h22, nI_m1 (by omega)]
    simp)
  rw [ef] at h2 h3
  exact ⟨M', h1, ⟨h2, h3⟩, h4⟩
/-- a chain that is asked for: refused on both sides, or laid on both -/
theorem ask2 {W : WW} {S : CS} {M : MS} (hw : WOK W) (hS : tW W S) (hR : tR W.V (M.2 0)) (h21 : M.1 21 = -1) (h22 : M.1 22 = -1) (e s d : Int32) :
    (f_X11_fillChain S e s d = some (false, S) ∧ f_X12_canAsk M e s d = some false) ∨
    (∃ (l : List Nat) (e' s' d' : Nat) (S' : CS) (M' : MS), e = nI e' ∧ e' < W.V.ne ∧ s = nI s' ∧ s' < 22 ∧ d = nI d' ∧ d' ≤ 20000 ∧ f_X11_fillChain S e s d = some (true, S') ∧ f_X12_canAsk M e s d = some true ∧ f_X12_layChain M e s d = some M' ∧ l = ch W.V W.L e' s' d ∧ cOK W.V e' d l ∧ linC S' l ∧ linM M' l ∧ cqf S S' ∧ mqf M M' ∧ tW W S' ∧ tR W.V (M'.2 0)) := by
  unfold f_X11_fillChain
  rw [c_asked hw.V hS.V, m_asked hw.V hR, bp_some]
  cases ha : vAsk W.V e s d with
  | false => exact Or.inl ⟨rfl, rfl⟩
  | true =>
    right
    unfold vAsk at ha
    simp only [Bool.and_eq_true] at ha
    obtain ⟨e', he, rfl⟩ := inR_nI ha.1.1
    obtain ⟨s', hs, rfl⟩ := inR_nI ha.1.2
    obtain ⟨d', hd, rfl⟩ := inR_nI ha.2
    obtain ⟨S', a1, a2, a3⟩ := c_ch1 hw hS (d := nI d') he hs
    obtain ⟨M', b1, b2, b3⟩ := m_ch hw hR h21 h22 (d := nI d') he hs
    have hq := cqf_of a3 (by decide) (by decide)
    have hq2 := mqf_of b3 (by decide) (by decide)
    refine ⟨_, e', s', d', S', M', rfl, he, rfl, hs, rfl, by omega, ?_, rfl, b1, rfl, ch_cOK hw, a2, b2, hq, hq2, cqf_W hS hq, by rw [mqf_R hq2]; exact hR⟩
    rw [if_pos rfl, a1]; rfl
