/-! marks of one row that are not in another: altered, without -/
def plcP (l : List Nat) (k : Nat) (r : Int32) : Prop := (r = -1 ∧ k ∉ l) ∨ ∃ i, i < l.length ∧ r = nI i ∧ l.getD i 0 = k ∧ ∀ j, j < i → l.getD j 0 ≠ k
theorem mem_ix {l : List Nat} {k : Nat} (h : k ∈ l) : ∃ i, i < l.length ∧ l.getD i 0 = k := by
  obtain ⟨i, hi, rfl⟩ := List.mem_iff_getElem.mp h
  exact ⟨i, hi, by rw [List.getD_eq_getElem?_getD, List.getElem?_eq_getElem hi]; rfl⟩
theorem plcP_ex (l : List Nat) (k : Nat) : ∃ r, plcP l k r := by
  by_cases h : k ∈ l
  · obtain ⟨i, ⟨h1, h2⟩, h3⟩ := pk_least (fun i => i < l.length ∧ l.getD i 0 = k) (mem_ix h)
    exact ⟨nI i, Or.inr ⟨i, h1, rfl, h2, fun j hj e => h3 j hj ⟨by omega, e⟩⟩⟩
  · exact ⟨-1, Or.inl ⟨rfl, h⟩⟩
noncomputable def plc (l : List Nat) (k : Nat) : Int32 := Classical.epsilon (plcP l k)
theorem plc_is (l : List Nat) (k : Nat) : plcP l k (plc l k) := Classical.epsilon_spec (plcP_ex l k)
theorem plcP_un {l : List Nat} {k : Nat} {r r' : Int32} (h : plcP l k r) (h' : plcP l k r') : r = r' := by
  rcases h with ⟨e, h⟩ | ⟨i, h1, e, h2, h3⟩
  · rcases h' with ⟨e', _⟩ | ⟨i', h1', _, h2', _⟩
    · rw [e, e']
    · exact absurd (by rw [← h2']; exact getD_mem h1') h
  · rcases h' with ⟨_, h'⟩ | ⟨i', h1', e', h2', h3'⟩
    · exact absurd (by rw [← h2]; exact getD_mem h1) h'
    · by_cases c : i < i'
      · exact absurd h2 (h3' i c)
      · by_cases c2 : i' < i
        · exact absurd h2' (h3 i' c2)
        · rw [e, e', show i = i' by omega]
theorem plc_m1 {l : List Nat} {k : Nat} (h60 : l.length ≤ 60) : plc l k = -1 ↔ k ∉ l := by
  rcases plc_is l k with ⟨e, h⟩ | ⟨i, h1, e, h2, h3⟩
  · exact ⟨fun _ => h, fun _ => e⟩
  · rw [e]
    exact ⟨fun h => absurd h (nI_nm1 (by omega)), fun h => absurd (by rw [← h2]; exact getD_mem h1) h⟩
theorem m_linked {V : VW} {M : MS} {l : List Nat} (hV : VOK V) (hl : ∀ y, y ∈ l → y < V.n) (h60 : l.length ≤ 60) (hc : linM M l) {k : Nat} (hk : k < 2 ^ 31) : f_X12_isLinked M (nI k) = some (decide (k ∈ l)) := by
  unfold f_X12_isLinked L_X12_isLinked_2
  refine lq1 (Q := fun o => o = some (decide (k ∈ l))) l.length (fun i => ∀ j, j < i → l.getD j 0 ≠ k) ?_ 0 rfl (Nat.zero_le _) (FU_gt (by omega)) (fun j hj => by omega)
  intro i kk hi hp hr
  by_cases c : i < l.length
  · have hb := vk hV (hl _ (getD_mem c))
    rw [hc.1, if_neg (fun h => by rw [nI_leI (by omega) (by omega)] at h; omega), chk_nI (by omega) (by decide), nI_clamp (by omega), hc.2 i c]
    by_cases e : l.getD i 0 = k
    · rw [if_pos (by rw [e]), decide_eq_true (by rw [← e]; exact getD_mem c)]
    · rw [if_neg (fun h => e ((nI_eq (by omega) hk).mp h)), lt_eq, nI_1]
      refine hr c (fun j hj => ?_)
      by_cases z : j = i
      · subst z; exact e
      · exact hp j (by omega)
  · rw [hc.1, if_pos ((nI_leI (by omega) (by omega)).mpr (by omega)), decide_eq_false]
    intro h
    obtain ⟨j, h1, h2⟩ := mem_ix h
    exact hp j (by omega) h2
def lowP (l : List Nat) (a : Int32) : Prop := (a = -1 ∧ l = []) ∨ ∃ k, k ∈ l ∧ a = nI k ∧ ∀ j, j ∈ l → k ≤ j
theorem lowP_un {l l' : List Nat} {a b : Int32} (h : lowP l a) (h' : lowP l' b) (hm : ∀ k, k ∈ l ↔ k ∈ l') : a = b := by
  rcases h with ⟨e, h⟩ | ⟨k, h1, e, h2⟩
  · rcases h' with ⟨e', _⟩ | ⟨k', h1', _, _⟩
    · rw [e, e']
    · have := (hm k').mpr h1'
      rw [h] at this; cases this
  · rcases h' with ⟨_, h'⟩ | ⟨k', h1', e', h2'⟩
    · have := (hm k).mp h1
      rw [h'] at this; cases this
    · have a1 := h2 k' ((hm k').mpr h1')
      have a2 := h2' k ((hm k).mp h1)
      rw [e, e', show k = k' by omega]
def notIn (l1 l2 : List Nat) : List Nat := l2.filter (fun k => !decide (k ∈ l1))
theorem mem_notIn {l1 l2 : List Nat} {k : Nat} : k ∈ notIn l1 l2 ↔ k ∈ l2 ∧ k ∉ l1 := by
  unfold notIn
  rw [List.mem_filter]
  simp
theorem nIn_neg {l : List Nat} {k : Nat} (e : k ∈ l) : [k].filter (fun k => !decide (k ∈ l)) = [] := by simp [e]
theorem nIn_pos {l : List Nat} {k : Nat} (e : ¬ k ∈ l) : [k].filter (fun k => !decide (k ∈ l)) = [k] := by simp [e]
theorem c_place_l1 {V : VW} {S : CS} {l : List Nat} (hV : VOK V) (hl : ∀ y, y ∈ l → y < V.n) (h60 : l.length ≤ 60) (hc : linC S l) {k : Nat} (hk : k < 2 ^ 31) : f_X7_placeOf_l1 S (nI k) = some (plc l k) := by
  unfold f_X7_placeOf_l1 L_X7_placeOf_l1_2
  refine lq1 (Q := fun o => o = some (plc l k)) l.length (fun i => ∀ j, j < i → l.getD j 0 ≠ k) ?_ 0 rfl (Nat.zero_le _) (FU_gt (by omega)) (fun j hj => by omega)
  intro i kk hi hp hr
  by_cases c : i < l.length
  · have hb := vk hV (hl _ (getD_mem c))
    rw [hc.1, if_neg (fun h => by rw [nI_leI (by omega) (by omega)] at h; omega), chk_nI (by omega) (by decide), nI_clamp (by omega), hc.2 i c]
    by_cases e : l.getD i 0 = k
    · rw [if_pos (by rw [e])]
      exact congrArg some (plcP_un (Or.inr ⟨i, c, rfl, e, hp⟩) (plc_is l k))
    · rw [if_neg (fun h => e ((nI_eq (by omega) hk).mp h)), lt_eq, nI_1]
      refine hr c (fun j hj => ?_)
      by_cases z : j = i
      · subst z; exact e
      · exact hp j (by omega)
  · rw [hc.1, if_pos ((nI_leI (by omega) (by omega)).mpr (by omega))]
    refine congrArg some (plcP_un (Or.inl ⟨rfl, ?_⟩) (plc_is l k))
    intro h
    obtain ⟨j, h1, h2⟩ := mem_ix h
    exact hp j (by omega) h2
theorem c_place_l2 {V : VW} {S : CS} {l : List Nat} (hV : VOK V) (hl : ∀ y, y ∈ l → y < V.n) (h60 : l.length ≤ 60) (hc : linD S l) {k : Nat} (hk : k < 2 ^ 31) : f_X7_placeOf_l2 S (nI k) = some (plc l k) := by
  unfold f_X7_placeOf_l2 L_X7_placeOf_l2_2
  refine lq1 (Q := fun o => o = some (plc l k)) l.length (fun i => ∀ j, j < i → l.getD j 0 ≠ k) ?_ 0 rfl (Nat.zero_le _) (FU_gt (by omega)) (fun j hj => by omega)
  intro i kk hi hp hr
  by_cases c : i < l.length
  · have hb := vk hV (hl _ (getD_mem c))
    rw [hc.1, if_neg (fun h => by rw [nI_leI (by omega) (by omega)] at h; omega), chk_nI (by omega) (by decide), nI_clamp (by omega), hc.2 i c]
    by_cases e : l.getD i 0 = k
    · rw [if_pos (by rw [e])]
      exact congrArg some (plcP_un (Or.inr ⟨i, c, rfl, e, hp⟩) (plc_is l k))
    · rw [if_neg (fun h => e ((nI_eq (by omega) hk).mp h)), lt_eq, nI_1]
      refine hr c (fun j hj => ?_)
      by_cases z : j = i
      · subst z; exact e
      · exact hp j (by omega)
  · rw [hc.1, if_pos ((nI_leI (by omega) (by omega)).mpr (by omega))]
    refine congrArg some (plcP_un (Or.inl ⟨rfl, ?_⟩) (plc_is l k))
    intro h
    obtain ⟨j, h1, h2⟩ := mem_ix h
    exact hp j (by omega) h2
theorem c_cnt_l2l1 {V : VW} {S : CS} {lb la : List Nat} (hV : VOK V) (hb : ∀ y, y ∈ lb → y < V.n) (hb60 : lb.length ≤ 60) (hcb : linC S lb) (ha : ∀ y, y ∈ la → y < V.n) (ha60 : la.length ≤ 60) (hca : linD S la) : f_X7_countNotIn_l2l1 S = some (nI (notIn lb la).length) := by
  unfold f_X7_countNotIn_l2l1 L_X7_countNotIn_l2l1_4
  refine lq2 (Q := fun o => o = some (nI (notIn lb la).length)) la.length (fun i a => a = nI (notIn lb (la.take i)).length) ?_ 0 rfl (Nat.zero_le _) (FU_gt (by omega)) rfl
  rintro i a kk hi rfl hr
  by_cases c : i < la.length
  · have hk := ha _ (getD_mem c)
    have hbk := vk hV hk
    rw [hca.1, if_neg (fun h => by rw [nI_leI (by omega) (by omega)] at h; omega), chk_nI (by omega) (by decide), nI_clamp (by omega), hca.2 i c, c_place_l1 hV hb hb60 hcb (by omega), bp_some]
    simp only [lt_eq, nI_1]
    have hr := fun a => hr a c
    unfold notIn at hr ⊢
    rw [take_s c, List.filter_append, List.length_append] at hr
    by_cases e : la.getD i 0 ∈ lb
    · rw [if_neg (fun h => (plc_m1 hb60).mp h e)]
      refine hr _ ?_
      rw [nIn_neg e]; rfl
    · rw [if_pos ((plc_m1 hb60).mpr e)]
      refine hr _ ?_
      rw [nIn_pos e]; rfl
  · have : i = la.length := by omega
    subst this
    rw [hca.1, if_pos ((nI_leI (by omega) (by omega)).mpr (by omega)), List.take_length]
theorem c_low_l2l1 {V : VW} {S : CS} {lb la : List Nat} (hV : VOK V) (hb : ∀ y, y ∈ lb → y < V.n) (hb60 : lb.length ≤ 60) (hcb : linC S lb) (ha : ∀ y, y ∈ la → y < V.n) (ha60 : la.length ≤ 60) (hca : linD S la) : ∃ r, f_X7_lowestNotIn_l2l1 S = some r ∧ lowP (notIn lb la) r := by
  unfold f_X7_lowestNotIn_l2l1 L_X7_lowestNotIn_l2l1_4
  refine lq2 (Q := fun o => ∃ r, o = some r ∧ lowP (notIn lb la) r) la.length (fun i a => lowP (notIn lb (la.take i)) a) ?_ 0 rfl (Nat.zero_le _) (FU_gt (by omega)) (Or.inl ⟨rfl, rfl⟩)
  rintro i a kk hi hp hr
  by_cases c : i < la.length
  · have hk := ha _ (getD_mem c)
    have hbk := vk hV hk
    have hlt : ∀ y, y ∈ notIn lb (la.take i) → y < V.n := fun y hy => ha y (List.mem_of_mem_take (mem_notIn.mp hy).1)
    rw [hca.1, if_neg (fun h => by rw [nI_leI (by omega) (by omega)] at h; omega), chk_nI (by omega) (by decide), nI_clamp (by omega), hca.2 i c, lt_eq, c_place_l1 hV hb hb60 hcb (by omega), bp_some]
    simp only [lt_eq, nI_1, jn0]
    have hr := fun a => hr a c
    have hs : notIn lb (la.take (i + 1)) = notIn lb (la.take i) ++ (if la.getD i 0 ∈ lb then [] else [la.getD i 0]) := by
      unfold notIn
      rw [take_s c, List.filter_append]
      by_cases e : la.getD i 0 ∈ lb
      · rw [if_pos e, nIn_neg e]
      · rw [if_neg e, nIn_pos e]
    rw [hs] at hr
    generalize notIn lb (la.take i) = q at hp hr hlt
    by_cases e : la.getD i 0 ∈ lb
    · rw [if_neg (fun h => (plc_m1 hb60).mp h e)]
      rw [if_pos e, List.append_nil] at hr
      exact hr _ hp
    · rw [if_pos ((plc_m1 hb60).mpr e)]
      rw [if_neg e] at hr
      rcases hp with ⟨rfl, hq⟩ | ⟨k, h1, rfl, h2⟩
      · rw [if_pos rfl]
        refine hr _ (Or.inr ⟨la.getD i 0, by simp, rfl, ?_⟩)
        rw [hq]
        intro j hj
        rw [List.nil_append, List.mem_singleton] at hj
        omega
      · have hkn := vk hV (hlt k h1)
        rw [if_neg (nI_nm1 (by omega))]
        by_cases z : k ≤ la.getD i 0
        · rw [if_pos ((nI_leI (by omega) (by omega)).mpr z)]
          refine hr _ (Or.inr ⟨k, List.mem_append_left _ h1, rfl, ?_⟩)
          intro j hj
          rcases List.mem_append.mp hj with hj | hj
          · exact h2 j hj
          · rw [List.mem_singleton.mp hj]; exact z
        · rw [if_neg (fun h => z ((nI_leI (by omega) (by omega)).mp h))]
          refine hr _ (Or.inr ⟨la.getD i 0, by simp, rfl, ?_⟩)
          intro j hj
          rcases List.mem_append.mp hj with hj | hj
          · have := h2 j hj; omega
          · rw [List.mem_singleton.mp hj]; exact Nat.le_refl _
  · have : i = la.length := by omega
    subst this
    rw [List.take_length] at hp
    rw [hca.1, if_pos ((nI_leI (by omega) (by omega)).mpr (by omega))]
    exact ⟨a, rfl, hp⟩
theorem c_cnt_l1l2 {V : VW} {S : CS} {lb la : List Nat} (hV : VOK V) (hb : ∀ y, y ∈ lb → y < V.n) (hb60 : lb.length ≤ 60) (hcb : linD S lb) (ha : ∀ y, y ∈ la → y < V.n) (ha60 : la.length ≤ 60) (hca : linC S la) : f_X7_countNotIn_l1l2 S = some (nI (notIn lb la).length) := by
  unfold f_X7_countNotIn_l1l2 L_X7_countNotIn_l1l2_4
  refine lq2 (Q := fun o => o = some (nI (notIn lb la).length)) la.length (fun i a => a = nI (notIn lb (la.take i)).length) ?_ 0 rfl (Nat.zero_le _) (FU_gt (by omega)) rfl
  rintro i a kk hi rfl hr
  by_cases c : i < la.length
  · have hk := ha _ (getD_mem c)
    have hbk := vk hV hk
    rw [hca.1, if_neg (fun h => by rw [nI_leI (by omega) (by omega)] at h; omega), chk_nI (by omega) (by decide), nI_clamp (by omega), hca.2 i c, c_place_l2 hV hb hb60 hcb (by omega), bp_some]
    simp only [lt_eq, nI_1]
    have hr := fun a => hr a c
    unfold notIn at hr ⊢
    rw [take_s c, List.filter_append, List.length_append] at hr
    by_cases e : la.getD i 0 ∈ lb
    · rw [if_neg (fun h => (plc_m1 hb60).mp h e)]
      refine hr _ ?_
      rw [nIn_neg e]; rfl
    · rw [if_pos ((plc_m1 hb60).mpr e)]
      refine hr _ ?_
      rw [nIn_pos e]; rfl
  · have : i = la.length := by omega
    subst this
    rw [hca.1, if_pos ((nI_leI (by omega) (by omega)).mpr (by omega)), List.take_length]
theorem c_low_l1l2 {V : VW} {S : CS} {lb la : List Nat} (hV : VOK V) (hb : ∀ y, y ∈ lb → y < V.n) (hb60 : lb.length ≤ 60) (hcb : linD S lb) (ha : ∀ y, y ∈ la → y < V.n) (ha60 : la.length ≤ 60) (hca : linC S la) : ∃ r, f_X7_lowestNotIn_l1l2 S = some r ∧ lowP (notIn lb la) r := by
  unfold f_X7_lowestNotIn_l1l2 L_X7_lowestNotIn_l1l2_4
  refine lq2 (Q := fun o => ∃ r, o = some r ∧ lowP (notIn lb la) r) la.length (fun i a => lowP (notIn lb (la.take i)) a) ?_ 0 rfl (Nat.zero_le _) (FU_gt (by omega)) (Or.inl ⟨rfl, rfl⟩)
  rintro i a kk hi hp hr
  by_cases c : i < la.length
  · have hk := ha _ (getD_mem c)
    have hbk := vk hV hk
    have hlt : ∀ y, y ∈ notIn lb (la.take i) → y < V.n := fun y hy => ha y (List.mem_of_mem_take (mem_notIn.mp hy).1)
    rw [hca.1, if_neg (fun h => by rw [nI_leI (by omega) (by omega)] at h; omega), chk_nI (by omega) (by decide), nI_clamp (by omega), hca.2 i c, lt_eq, c_place_l2 hV hb hb60 hcb (by omega), bp_some]
    simp only [lt_eq, nI_1, jn0]
    have hr := fun a => hr a c
    have hs : notIn lb (la.take (i + 1)) = notIn lb (la.take i) ++ (if la.getD i 0 ∈ lb then [] else [la.getD i 0]) := by
      unfold notIn
      rw [take_s c, List.filter_append]
      by_cases e : la.getD i 0 ∈ lb
      · rw [if_pos e, nIn_neg e]
      · rw [if_neg e, nIn_pos e]
    rw [hs] at hr
    generalize notIn lb (la.take i) = q at hp hr hlt
    by_cases e : la.getD i 0 ∈ lb
    · rw [if_neg (fun h => (plc_m1 hb60).mp h e)]
      rw [if_pos e, List.append_nil] at hr
      exact hr _ hp
    · rw [if_pos ((plc_m1 hb60).mpr e)]
      rw [if_neg e] at hr
      rcases hp with ⟨rfl, hq⟩ | ⟨k, h1, rfl, h2⟩
      · rw [if_pos rfl]
        refine hr _ (Or.inr ⟨la.getD i 0, by simp, rfl, ?_⟩)
        rw [hq]
        intro j hj
        rw [List.nil_append, List.mem_singleton] at hj
        omega
      · have hkn := vk hV (hlt k h1)
        rw [if_neg (nI_nm1 (by omega))]
        by_cases z : k ≤ la.getD i 0
        · rw [if_pos ((nI_leI (by omega) (by omega)).mpr z)]
          refine hr _ (Or.inr ⟨k, List.mem_append_left _ h1, rfl, ?_⟩)
          intro j hj
          rcases List.mem_append.mp hj with hj | hj
          · exact h2 j hj
          · rw [List.mem_singleton.mp hj]; exact z
        · rw [if_neg (fun h => z ((nI_leI (by omega) (by omega)).mp h))]
          refine hr _ (Or.inr ⟨la.getD i 0, by simp, rfl, ?_⟩)
          intro j hj
          rcases List.mem_append.mp hj with hj | hj
          · have := h2 j hj; omega
          · rw [List.mem_singleton.mp hj]; exact Nat.le_refl _
  · have : i = la.length := by omega
    subst this
    rw [List.take_length] at hp
    rw [hca.1, if_pos ((nI_leI (by omega) (by omega)).mpr (by omega))]
    exact ⟨a, rfl, hp⟩
theorem m_note {V : VW} {M : MS} {l : List Nat} (hV : VOK V) (hl : ∀ y, y ∈ l → y < V.n) (h60 : l.length ≤ 60) (hc : linM M l) : ∃ M' : MS, f_X12_noteLinks M = some M' ∧ fI [] [23] M M' ∧ ∀ k, k < 60 → (M'.2 23 k = 0 ↔ k ∉ l) := by
  unfold f_X12_noteLinks L_X12_noteLinks_2
  refine lq2 (Q := fun o => ∃ M' : MS, o = some M' ∧ fI [] [23] M M' ∧ ∀ k, k < 60 → (M'.2 23 k = 0 ↔ k ∉ l)) 60 (fun i M1 => fI [] [23] M M1 ∧ ∀ k, k < i → (M1.2 23 k = 0 ↔ k ∉ l)) ?_ 0 rfl (Nat.zero_le _) (FU_gt (by omega)) ⟨fI_rf, fun k hk => by omega⟩
  rintro i M1 kk hi ⟨hf, hp⟩ hr
  have hc1 : linM M1 l := ⟨by rw [hf.1 20 (by decide)]; exact hc.1, by rw [hf.2 19 (by decide)]; exact hc.2⟩
  by_cases c : i < 60
  · rw [if_neg (fun h => by rw [show (60 : Int32) = nI 60 from rfl, nI_leI (by omega) (by omega)] at h; omega), m_linked hV hl h60 hc1 (by omega), bp_some, chk_nI c (by decide), nI_clamp (by omega), lt_eq, lt_eq, nI_1]
    refine hr _ c ⟨fI_sa hf (by decide), ?_⟩
    intro k hk
    show upd (M1.2 23) i _ k = 0 ↔ _
    by_cases z : k = i
    · subst z
      rw [pk_us]
      by_cases e : k ∈ l
      · rw [decide_eq_true e]; exact ⟨fun h => absurd h (by decide), fun h => absurd e h⟩
      · rw [decide_eq_false e]; exact ⟨fun _ => e, fun _ => by decide⟩
    · rw [pk_un z]; exact hp k (by omega)
  · have : i = 60 := by omega
    subst this
    rw [if_pos (by decide)]
    exact ⟨M1, rfl, hf, hp⟩
def frsh (n : Nat) (l1 l2 : List Nat) : List Nat := (List.range n).filter (fun k => !decide (k ∈ l1) && decide (k ∈ l2))
theorem m_fresh {V : VW} {M : MS} {l1 l2 : List Nat} (hV : VOK V) (hR : tR V (M.2 0)) (hl : ∀ y, y ∈ l2 → y < V.n) (h60 : l2.length ≤ 60) (hc : linM M l2) (h23 : ∀ k, k < 60 → (M.2 23 k = 0 ↔ k ∉ l1)) : ∃ M' : MS, f_X12_countFresh M = some M' ∧ fI [24, 25] [] M M' ∧ M'.1 24 = nI (frsh V.n l1 l2).length ∧ lowP (frsh V.n l1 l2) (M'.1 25) := by
  have hn := hV.n
  unfold f_X12_countFresh L_X12_countFresh_12
  rw [lt_eq, lt_eq]
  refine lq2 (Q := fun o => ∃ M' : MS, o = some M' ∧ fI [24, 25] [] M M' ∧ M'.1 24 = nI (frsh V.n l1 l2).length ∧ lowP (frsh V.n l1 l2) (M'.1 25)) V.n (fun i M1 => fI [24, 25] [] M M1 ∧ M1.1 24 = nI (frsh i l1 l2).length ∧ lowP (frsh i l1 l2) (M1.1 25)) ?_ 0 rfl (Nat.zero_le _) (FU_gt (by omega)) ⟨fI_si (fI_si fI_rf (by decide)) (by decide), rfl, Or.inl ⟨rfl, rfl⟩⟩
  rintro i M1 kk hi ⟨hf, hp1, hp2⟩ hr
  have hR1 : tR V (M1.2 0) := by rw [hf.2 0 (by decide)]; exact hR
  have hc1 : linM M1 l2 := ⟨by rw [hf.1 20 (by decide)]; exact hc.1, by rw [hf.2 19 (by decide)]; exact hc.2⟩
  rw [chk_c3, m_A3 hR1]
  by_cases c : i < V.n
  · have hr := fun a => hr a c
    have hs : frsh (i + 1) l1 l2 = frsh i l1 l2 ++ (if i ∉ l1 ∧ i ∈ l2 then [i] else []) := by
      unfold frsh
      rw [List.range_succ, List.filter_append]
      by_cases e : i ∉ l1 ∧ i ∈ l2
      · rw [if_pos e, List.filter_cons_of_pos (by simp [e])]; rfl
      · rw [if_neg e, List.filter_cons_of_neg (by simp; intro h; exact fun h2 => e ⟨h, h2⟩)]; rfl
    have hle : (frsh i l1 l2).length ≤ i := by
      have := List.length_filter_le (fun k => !decide (k ∈ l1) && decide (k ∈ l2)) (List.range i)
      rw [List.length_range] at this
      exact this
    have hlt : ∀ y, y ∈ frsh i l1 l2 → y < i := fun y hy => List.mem_range.mp (List.mem_filter.mp hy).1
    rw [hs] at hr
    generalize frsh i l1 l2 = q at hp1 hp2 hr hle hlt
    rw [if_neg (fun h => by rw [nI_leI (by omega) (by omega)] at h; omega), chk_nI (by omega) (by decide), nI_clamp (by omega), m_linked hV hl h60 hc1 (by omega), bp_some]
    simp only [lt_eq, nI_1, jn1]
    have e23 := h23 i (by omega)
    rw [← hf.2 23 (by decide)] at e23
    by_cases e1 : i ∉ l1
    · rw [if_pos (e23.mpr e1)]
      by_cases e2 : i ∈ l2
      · rw [if_pos (decide_eq_true e2)]
        rw [if_pos ⟨e1, e2⟩] at hr
        have e24 : (si M1 24 (M1.1 24 + 1)).1 24 = nI (q.length + 1) := by show M1.1 24 + 1 = _; rw [hp1, nI_1]
        rw [e24]
        have hfr : ∀ x, fI [24, 25] [] M (si (si M1 24 (M1.1 24 + 1)) 25 x) := fun x => fI_si (fI_si hf (by decide)) (by decide)
        have hcn : ∀ x, (si (si M1 24 (M1.1 24 + 1)) 25 x).1 24 = nI (q ++ [i]).length := fun x => by
          show M1.1 24 + 1 = _
          rw [hp1, nI_1, List.length_append]; rfl
        rcases hp2 with ⟨h25, hq⟩ | ⟨k, h1, h25, h2⟩
        · subst hq
          rw [if_pos (show nI (([] : List Nat).length + 1) = 1 from rfl)]
          refine hr _ ⟨hfr _, hcn _, Or.inr ⟨i, by simp, rfl, ?_⟩⟩
          intro j hj
          rw [List.nil_append, List.mem_singleton] at hj
          omega
        · have hq : 0 < q.length := List.length_pos_of_mem h1
          rw [if_neg (fun h => by
            rw [show (1 : Int32) = nI 1 from rfl, nI_eq (by omega) (by omega)] at h; omega)]
          refine hr _ ⟨hfr _, hcn _, Or.inr ⟨k, List.mem_append_left _ h1, h25, ?_⟩⟩
          intro j hj
          rcases List.mem_append.mp hj with hj | hj
          · exact h2 j hj
          · have := hlt k h1
            rw [List.mem_singleton.mp hj]; omega
      · rw [if_neg (fun h => e2 (of_decide_eq_true h))]
        rw [if_neg (fun h => e2 h.2), List.append_nil] at hr
        exact hr _ ⟨hf, hp1, hp2⟩
    · rw [if_neg (fun h => e1 (e23.mp h))]
      rw [if_neg (fun h => e1 h.1), List.append_nil] at hr
      exact hr _ ⟨hf, hp1, hp2⟩
  · have : i = V.n := by omega
    subst this
    rw [if_pos ((nI_leI (by omega) (by omega)).mpr (by omega))]
    exact ⟨M1, rfl, hf, hp1, hp2⟩
theorem srt_nodup {V : VW} {l : List Nat} (h : srt V l) : l.Nodup := List.Pairwise.imp (fun h e => by rw [e, vA_irr] at h; cases h) h
theorem frsh_mem {n : Nat} {l1 l2 : List Nat} (hl : ∀ y, y ∈ l2 → y < n) {k : Nat} : k ∈ notIn l1 l2 ↔ k ∈ frsh n l1 l2 := by
  rw [mem_notIn]
  unfold frsh
  rw [List.mem_filter, List.mem_range]
  simp only [Bool.and_eq_true, Bool.not_eq_true', decide_eq_false_iff_not, decide_eq_true_eq]
  exact ⟨fun h => ⟨hl k h.1, h.2, h.1⟩, fun h => ⟨h.2.2, h.2.1⟩⟩
theorem frsh_len {n : Nat} {l1 l2 : List Nat} (hl : ∀ y, y ∈ l2 → y < n) (hd : l2.Nodup) : (frsh n l1 l2).length = (notIn l1 l2).length := by
  refine List.Perm.length_eq ((List.perm_ext_iff_of_nodup ?_ ?_).mpr (fun k => (frsh_mem hl).symm))
  · exact List.Nodup.sublist List.filter_sublist List.nodup_range
  · exact List.Nodup.sublist List.filter_sublist hd
