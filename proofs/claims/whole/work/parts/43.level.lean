/-! holders, levels, held, stood, progress -/
def hbit (V : VW) (k : Nat) : Int32 := (1 : Int32) <<< (nI (V.ath k) &&& 31)
def hF (V : VW) (l : List Nat) (i : Nat) (a : Int32) : Int32 := a ||| (if nI (V.va (l.getD i 0)) = recV V l then hbit V (l.getD i 0) else 0)
theorem m_holders {V : VW} {M : MS} {l : List Nat} (hV : VOK V) (hR : tR V (M.2 0)) (hl : ∀ y, y ∈ l → y < V.n) (h60 : l.length ≤ 60) (hc : linM M l) : f_X12_holdersNow M = some (itN (hF V l) 0 l.length) := by
  unfold f_X12_holdersNow L_X12_holdersNow_4
  refine lf1 (hF V l) 0 0 l.length (FU_gt (by omega)) ?_ ?_ rfl rfl (Nat.zero_le _)
  · intro i kk h1 h2
    have hk := hl _ (getD_mem h2)
    simp only [hc.1, nI_1, chk_nI (show i < 60 by omega) (by decide), nI_clamp (show i < 2 ^ 31 by omega), hc.2 i h2, lt_eq, m_value hV hR hl h60 hc h2, m_rec hV hR hl h60 hc, m_o1 hV hR hk, bp_some, jn1]
    rw [if_neg (fun h => by rw [nI_leI (by omega) (by omega)] at h; omega)]
    unfold hF hbit
    by_cases c : nI (V.va (l.getD i 0)) = recV V l
    · rw [if_pos c, if_pos c]
    · rw [if_neg c, if_neg c]
  · intro kk
    rw [hc.1, if_pos ((nI_leI (by omega) (by omega)).mpr (by omega))]
theorem hF_zero {V : VW} {l : List Nat} : ∀ m, (∀ i, i < m → ¬ nI (V.va (l.getD i 0)) = recV V l) → itN (hF V l) 0 m = 0 := by
  intro m
  induction m with
  | zero => intro _; rfl
  | succ m ih =>
    intro h
    show hF V l m (itN (hF V l) 0 m) = 0
    rw [ih (fun i hi => h i (by omega))]
    unfold hF
    rw [if_neg (h m (by omega))]; rfl
theorem c_holders {V : VW} {S : CS} {l : List Nat} {e : Nat} {d : Int32} (hV : VOK V) (hS : tC V S) (ho : cOK V e d l) (hc : linC S l) : f_X7_holderBits_l1 S = some (itN (hF V l) 0 l.length) := by
  have hl := ho.m
  have h60 := ho.le
  unfold f_X7_holderBits_l1 L_X7_holderBits_l1_14
  rw [c_last1 hV hS hl h60 hc, bp_some, lt_eq, hc.1]
  refine lg2 (Q := fun o => o = some (itN (hF V l) 0 l.length)) (fun m a x => m ≤ l.length ∧ x = nI m - 1 ∧ itN (hF V l) 0 l.length = a ||| itN (hF V l) 0 m) ?_ FU l.length 0 (nI l.length - 1) (FU_gt (by omega)) ⟨Nat.le_refl _, rfl, Int32.zero_or.symm⟩
  rintro m a x kk ⟨hm, rfl, ht⟩ hr
  cases m with
  | zero =>
    rw [if_pos (show nI 0 - 1 < 0 by decide), ht]
    show some a = some (a ||| 0)
    rw [Int32.or_zero]
  | succ t =>
    have h2 : t < l.length := by omega
    have hk := hl _ (getD_mem h2)
    have hb := vk hV hk
    rw [nI_pred]
    simp only [chk_nI (show t < 60 by omega) (by decide), nI_clamp (show t < 2 ^ 31 by omega), hc.2 t h2, chk_nI (show l.getD t 0 < 60 by omega) (by decide), nI_clamp (show l.getD t 0 < 2 ^ 31 by omega), hS.va _ hk, hS.ath _ hk, lt_eq]
    rw [if_neg (nI_pos (by omega))]
    have hstep : itN (hF V l) 0 (t + 1) = itN (hF V l) 0 t ||| (if nI (V.va (l.getD t 0)) = recV V l then hbit V (l.getD t 0) else 0) := rfl
    by_cases c : nI (V.va (l.getD t 0)) = recV V l
    · rw [if_pos c]
      refine hr t _ _ (by omega) ⟨by omega, ?_, ?_⟩
      · cases t with
        | zero => rfl
        | succ t => rw [pk_m1, nI_pred]
      · rw [ht, hstep, if_pos c]
        unfold hbit
        rw [Int32.or_assoc, Int32.or_comm (itN (hF V l) 0 t)]
    · rw [if_neg c, ht]
      have hz : itN (hF V l) 0 (t + 1) = 0 := by
        refine hF_zero (t + 1) (fun i hi ec => c ?_)
        have hne : l ≠ [] := fun z => by rw [z] at h2; cases h2
        have hlst : lst l = l[l.length - 1]'(by omega) := by unfold lst; rw [List.getD_eq_getElem?_getD, List.getElem?_eq_getElem (by omega)]; rfl
        have gi : ∀ j (hj : j < l.length), l.getD j 0 = l[j] := fun j hj => by rw [List.getD_eq_getElem?_getD, List.getElem?_eq_getElem hj]; rfl
        have er : recV V l = nI (V.va (lst l)) := if_neg hne
        rw [er] at ec ⊢
        have hki := vk hV (hl _ (getD_mem (l := l) (i := i) (by omega)))
        have hkl := vk hV (hl _ (lst_mem hne))
        have hec : V.va (l.getD i 0) = V.va (lst l) := (nI_eq (by omega) (by omega)).mp ec
        have mo := List.pairwise_iff_getElem.mp ho.mo
        have m1 : vBet V e (nI (V.va (l.getD i 0))) (nI (V.va (l.getD t 0))) = false := by
          by_cases z : i = t
          · subst z; exact vBet_irr
          · rw [gi i (by omega), gi t h2]; exact mo i t (by omega) h2 (by omega)
        have m2 : vBet V e (nI (V.va (l.getD t 0))) (nI (V.va (lst l))) = false := by
          by_cases z : t = l.length - 1
          · subst z; exact vBet_irr
          · rw [hlst, gi t h2]; exact mo t (l.length - 1) h2 (by omega) (by omega)
        rw [vBet_n (by omega) (by omega)] at m1 m2
        congr 1
        by_cases ce : V.e0 e = 0
        · rw [if_pos ce, decide_eq_false_iff_not] at m1 m2; omega
        · rw [if_neg ce, decide_eq_false_iff_not] at m1 m2; omega
      rw [hz, Int32.or_zero]
/-- where the level of the i-th ends -/
def isE (V : VW) (l : List Nat) (i j : Nat) : Prop := i < j ∧ j ≤ l.length ∧ (∀ t, i < t → t < j → V.va (l.getD t 0) = V.va (l.getD i 0)) ∧ (j = l.length ∨ V.va (l.getD j 0) ≠ V.va (l.getD i 0))
theorem isE_ex {V : VW} {l : List Nat} {i : Nat} : ∀ (m j : Nat), j + m = l.length → i < j → (∀ t, i < t → t < j → V.va (l.getD t 0) = V.va (l.getD i 0)) → ∃ j', isE V l i j' := by
  intro m
  induction m with
  | zero => intro j hj hi h; exact ⟨j, hi, by omega, h, Or.inl (by omega)⟩
  | succ m ih =>
    intro j hj hi h
    by_cases c : V.va (l.getD j 0) = V.va (l.getD i 0)
    · refine ih (j + 1) (by omega) (by omega) (fun t h1 h2 => ?_)
      by_cases e : t = j
      · subst e; exact c
      · exact h t h1 (by omega)
    · exact ⟨j, hi, by omega, h, Or.inr c⟩
theorem isE_un {V : VW} {l : List Nat} {i j j' : Nat} (h : isE V l i j) (h' : isE V l i j') : j = j' := by
  obtain ⟨a1, a2, a3, a4⟩ := h
  obtain ⟨b1, b2, b3, b4⟩ := h'
  by_cases c : j < j'
  · rcases a4 with a4 | a4
    · omega
    · exact absurd (b3 j a1 c) a4
  · by_cases c2 : j' < j
    · rcases b4 with b4 | b4
      · omega
      · exact absurd (a3 j' b1 c2) b4
    · omega
noncomputable def lvE (V : VW) (l : List Nat) (i : Nat) : Nat := Classical.epsilon (fun j => isE V l i j)
theorem lvE_is {V : VW} {l : List Nat} {i : Nat} (hi : i < l.length) : isE V l i (lvE V l i) := Classical.epsilon_spec (isE_ex (l.length - (i + 1)) (i + 1) (by omega) (by omega) (fun t h1 h2 => by omega))
theorem lvE_eq {V : VW} {l : List Nat} {i j : Nat} (h : isE V l i j) : lvE V l i = j := isE_un (Classical.epsilon_spec ⟨j, h⟩) h
theorem c_levelEnd {V : VW} {S : CS} {l : List Nat} (hV : VOK V) (hS : tC V S) (hl : ∀ y, y ∈ l → y < V.n) (h60 : l.length ≤ 60) (hc : linC S l) {i : Nat} (hi : i < l.length) : f_X7_levelEnd_l1 S (nI i) = some (nI (lvE V l i)) := by
  obtain ⟨a1, a2, a3, a4⟩ := lvE_is (V := V) hi
  generalize lvE V l i = j at a1 a2 a3 a4
  unfold f_X7_levelEnd_l1 L_X7_levelEnd_l1_4
  rw [lt_eq, nI_1]
  refine lq1 (Q := fun o => o = some (nI j)) l.length (fun t => i < t ∧ t ≤ j) ?_ (i + 1) rfl (by omega) (FU_gt (by omega)) ⟨by omega, by omega⟩
  rintro t kk ht ⟨h1, h2⟩ hr
  simp only [hc.1, c_tie hV hS hl h60 hc (show t ≤ 60 by omega), bp_some, lt_eq, nI_1]
  by_cases c : t < j
  · rw [if_neg (fun h => by rw [nI_leI (by omega) (by omega)] at h; omega)]
    have : tie V l t = true := decide_eq_true ⟨by omega, by omega, by
      rw [a3 t h1 c]
      by_cases z : t - 1 = i
      · rw [z]
      · rw [a3 (t - 1) (by omega) (by omega)]⟩
    rw [if_pos this]
    exact hr (by omega) ⟨by omega, by omega⟩
  · have : t = j := by omega
    subst this
    rcases a4 with a4 | a4
    · rw [if_pos ((nI_leI (by omega) (by omega)).mpr (by omega))]
    · by_cases c2 : l.length ≤ t
      · rw [if_pos ((nI_leI (by omega) (by omega)).mpr c2)]
      · rw [if_neg (fun h => by rw [nI_leI (by omega) (by omega)] at h; omega)]
        have : ¬ tie V l t = true := fun h => by
          have h := of_decide_eq_true h
          apply a4
          rw [h.2.2]
          by_cases z : t - 1 = i
          · rw [z]
          · rw [a3 (t - 1) (by omega) (by omega)]
        rw [if_neg this]
theorem m_endOf {V : VW} {M : MS} {l : List Nat} (hV : VOK V) (hR : tR V (M.2 0)) (hl : ∀ y, y ∈ l → y < V.n) (h60 : l.length ≤ 60) (hc : linM M l) {i d : Nat} (hi : i < l.length) : f_X12_endOf M (nI i) (nI d) = some (nI (dN V l d (lvE V l i))) := by
  obtain ⟨a1, a2, a3, a4⟩ := lvE_is (V := V) hi
  generalize lvE V l i = j at a1 a2 a3 a4
  unfold f_X12_endOf L_X12_endOf_4
  rw [lt_eq, nI_1]
  refine lq1 (Q := fun o => o = some (nI (dN V l d j))) l.length (fun t => i < t ∧ t ≤ j) ?_ (i + 1) rfl (by omega) (FU_gt (by omega)) ⟨by omega, by omega⟩
  rintro t kk ht ⟨h1, h2⟩ hr
  have hbi := vk hV (hl _ (getD_mem hi))
  by_cases c2 : t < l.length
  · have hk := hl _ (getD_mem c2)
    have hb := vk hV hk
    simp only [hc.1, m_value hV hR hl h60 hc c2, m_value hV hR hl h60 hc hi, bp_some, lt_eq, nI_1, chk_nI (show t < 60 by omega) (by decide), nI_clamp (show t < 2 ^ 31 by omega), hc.2 t c2, m_o3 hV hR hk]
    rw [if_neg (fun h => by rw [nI_leI (by omega) (by omega)] at h; omega)]
    by_cases c : t < j
    · rw [if_pos (by rw [a3 t h1 c])]
      exact hr c2 ⟨by omega, by omega⟩
    · have : t = j := by omega
      subst this
      rcases a4 with a4 | a4
      · omega
      · rw [if_neg (fun h => a4 ((nI_eq (by omega) (by omega)).mp h))]
        unfold dN
        rw [if_pos c2]
  · rw [hc.1, if_pos ((nI_leI (by omega) (by omega)).mpr (by omega))]
    unfold dN
    rw [if_neg (by omega)]
theorem c_daysOf {V : VW} {S : CS} {l : List Nat} (hV : VOK V) (hS : tC V S) (hl : ∀ y, y ∈ l → y < V.n) (h60 : l.length ≤ 60) (hc : linC S l) {i d : Nat} (hi : i < l.length) : f_X7_daysOfLevel_l1 S (nI i) (nI d) = some (nI (dN V l d (lvE V l i)) - nI (dN V l d i)) := by
  have a := lvE_is (V := V) hi
  unfold f_X7_daysOfLevel_l1
  rw [c_levelEnd hV hS hl h60 hc hi, bp_some, c_dayAt hV hS hl h60 hc (by have := a.2.1; omega), bp_some, c_dayAt hV hS hl h60 hc (by omega), bp_some]
theorem dN_le {W : WW} (hw : WOK W) {e d : Nat} {l : List Nat} (hd : d ≤ 20000) (ho : cOK W.V e (nI d) l) {i j : Nat} (hij : i ≤ j) (hj : j ≤ l.length) : dN W.V l d i ≤ dN W.V l d j := by
  unfold dN
  by_cases ci : i < l.length
  · rw [if_pos ci]
    have gi : ∀ j (hj : j < l.length), l.getD j 0 = l[j] := fun j hj => by rw [List.getD_eq_getElem?_getD, List.getElem?_eq_getElem hj]; rfl
    by_cases cj : j < l.length
    · rw [if_pos cj]
      by_cases z : i = j
      · subst z; exact Nat.le_refl _
      · have := List.pairwise_iff_getElem.mp ho.so i j ci cj (by omega)
        rw [← gi i ci, ← gi j cj] at this
        have := of_decide_eq_true this
        omega
    · rw [if_neg cj]
      have hk := ho.m _ (getD_mem ci)
      have hb := vk hw.V hk
      have st := ho.st _ (getD_mem ci)
      unfold vStand at st
      simp only [Bool.and_eq_true, Bool.not_eq_true', beq_eq_false_iff_ne, decide_eq_false_iff_not] at st
      have := hw.dy _ hk st.1.1
      have h2 := st.1.2
      rw [Int32.lt_iff_toInt_lt, nI_toInt (by omega)] at h2
      rw [Int32.le_iff_toInt_le, nI_toInt (by omega)] at this
      omega
  · rw [if_neg ci, if_neg (by omega)]; exact Nat.le_refl _
theorem dN_b {W : WW} (hw : WOK W) {e d : Nat} {l : List Nat} (hd : d ≤ 20000) (ho : cOK W.V e (nI d) l) (i : Nat) : dN W.V l d i ≤ 20000 := by
  unfold dN
  split
  · rename_i h
    have := vk hw.V (ho.m _ (getD_mem h)); omega
  · exact hd
theorem lvE_tie {V : VW} {l : List Nat} {i : Nat} (hi : i + 1 < l.length) (h : tie V l (i + 1) = true) : lvE V l i = lvE V l (i + 1) := by
  have h := (of_decide_eq_true h).2.2
  rw [show i + 1 - 1 = i from rfl] at h
  obtain ⟨a1, a2, a3, a4⟩ := lvE_is (V := V) hi
  refine lvE_eq ⟨by omega, a2, fun t h1 h2 => ?_, ?_⟩
  · by_cases z : t = i + 1
    · subst z; exact h
    · rw [a3 t (by omega) h2, h]
  · rw [← h]; exact a4
theorem lvE_not {V : VW} {l : List Nat} {i : Nat} (hi : i < l.length) (h : ¬ tie V l (i + 1) = true) : lvE V l i = i + 1 := by
  refine lvE_eq ⟨by omega, by omega, fun t h1 h2 => by omega, ?_⟩
  by_cases c : i + 1 = l.length
  · exact Or.inl c
  · right
    intro z
    exact h (decide_eq_true ⟨by omega, by omega, z⟩)
noncomputable def hlF (V : VW) (l : List Nat) (d : Nat) (a : Int32) (i : Nat) (p : Int32 × Int32) : Int32 × Int32 :=
  if (if tie V l i = true then p.2 else 0) = 0 then (if nI (V.ath (l.getD i 0)) = a then (p.1 + (nI (dN V l d (lvE V l i)) - nI (dN V l d i)), 1) else (p.1, (if tie V l i = true then p.2 else 0))) else (p.1, (if tie V l i = true then p.2 else 0))
theorem c_held {V : VW} {S : CS} {l : List Nat} {d : Nat} {a : Int32} (hV : VOK V) (hS : tC V S) (hl : ∀ y, y ∈ l → y < V.n) (h60 : l.length ≤ 60) (hc : linC S l) : f_X7_daysHeldBy_l1 S a (nI d) = some (itN (hlF V l d a) (0, 0) l.length).1 := by
  unfold f_X7_daysHeldBy_l1 L_X7_daysHeldBy_l1_8
  refine lf3 (hlF V l d a) (0, 0) 0 l.length (FU_gt (by omega)) ?_ ?_ rfl rfl rfl (Nat.zero_le _)
  · intro i kk h1 h2
    have hk := hl _ (getD_mem h2)
    have hb := vk hV hk
    simp only [hc.1, c_tie hV hS hl h60 hc (show i ≤ 60 by omega), c_daysOf hV hS hl h60 hc h2, bp_some, lt_eq, nI_1, jn1, chk_nI (show i < 60 by omega) (by decide), nI_clamp (show i < 2 ^ 31 by omega), hc.2 i h2, chk_nI (show l.getD i 0 < 60 by omega) (by decide), nI_clamp (show l.getD i 0 < 2 ^ 31 by omega), hS.ath _ hk]
    rw [if_neg (fun h => by rw [nI_leI (by omega) (by omega)] at h; omega)]
    generalize itN (hlF V l d a) (0, 0) i = p
    unfold hlF
    by_cases c : tie V l i = true
    · simp only [if_pos c]
      obtain ⟨p1, p2⟩ := p
      by_cases c2 : p2 = 0
      · subst c2
        simp only [if_true]
        split <;> rfl
      · rw [if_neg c2, if_neg c2]
    · simp only [if_neg c, if_true]
      split <;> rfl
  · intro kk
    rw [hc.1, if_pos ((nI_leI (by omega) (by omega)).mpr (by omega))]
theorem m_held {W : WW} {M : MS} {l : List Nat} {d e : Nat} {a : Int32} (hw : WOK W) (hR : tR W.V (M.2 0)) (hd : d ≤ 20000) (ho : cOK W.V e (nI d) l) (hc : linM M l) : L_X12_held_39 M a (nI d) (fun x => some (x, M)) FU 0 0 0 = some ((itN (hlF W.V l d a) (0, 0) l.length).1, M) := by
  have hV := hw.V
  have hl := ho.m
  have h60 := ho.le
  unfold L_X12_held_39
  refine lq3 (Q := fun o => o = some ((itN (hlF W.V l d a) (0, 0) l.length).1, M)) l.length (fun i x y => ∃ till : Nat, y = nI till ∧ till ≤ 20000 ∧ x = (itN (hlF W.V l d a) (0, 0) i).1 ∧ (i < l.length → (¬ tie W.V l i = true ∨ (itN (hlF W.V l d a) (0, 0) i).2 = 0) → till ≤ dN W.V l d i) ∧ (i < l.length → tie W.V l i = true → ¬ (itN (hlF W.V l d a) (0, 0) i).2 = 0 → till ≤ dN W.V l d (lvE W.V l i) ∧ dN W.V l d (lvE W.V l i) ≤ max till (dN W.V l d i))) ?_ 0 rfl (Nat.zero_le _) (FU_gt (by omega)) ⟨0, rfl, by omega, rfl, fun _ _ => Nat.zero_le _, fun _ _ h => absurd rfl h⟩
  rintro i x y kk hi ⟨till, rfl, ht, rfl, hA, hB⟩ hr
  by_cases c0 : i < l.length
  · have hk := hl _ (getD_mem c0)
    have hb := vk hV hk
    have hE := lvE_is (V := W.V) c0
    have hDE := dN_b hw hd ho (lvE W.V l i)
    have hDi := dN_b hw hd ho i
    have hDle : dN W.V l d i ≤ dN W.V l d (lvE W.V l i) := dN_le hw hd ho (by have := hE.1; omega) hE.2.1
    have hDs : i + 1 < l.length → dN W.V l d i ≤ dN W.V l d (i + 1) := fun h => dN_le hw hd ho (by omega) (by omega)
    have ei : dN W.V l d i = W.V.dy (l.getD i 0) := if_pos c0
    have hr := fun a' b' => hr a' b' c0
    have hs : itN (hlF W.V l d a) (0, 0) (i + 1) = hlF W.V l d a i (itN (hlF W.V l d a) (0, 0) i) := rfl
    rw [hs] at hr
    generalize itN (hlF W.V l d a) (0, 0) i = p at hA hB hr
    simp only [hc.1, bp_some, lt_eq, nI_1, jn1, chk_nI (show i < 60 by omega) (by decide), nI_clamp (show i < 2 ^ 31 by omega), hc.2 i c0, m_o1 hV hR hk, m_o3 hV hR hk, m_endOf hV hR hl h60 hc c0]
    rw [if_neg (fun h => by rw [nI_leI (by omega) (by omega)] at h; omega)]
    rw [← ei]
    -- the flag as the class has it
    have key : ∀ (q : Int32 × Int32) (till' : Nat), till' ≤ 20000 → (q.2 = 0 → till' ≤ dN W.V l d i) → (¬ q.2 = 0 → till' ≤ dN W.V l d (lvE W.V l i) ∧ dN W.V l d (lvE W.V l i) ≤ max till' (dN W.V l d i)) → hlF W.V l d a i p = q → kk q.1 (nI till') (nI (i + 1)) = some ((itN (hlF W.V l d a) (0, 0) l.length).1, M) := by
      intro q till' t1 t2 t3 hq
      refine hr q.1 (nI till') ⟨till', rfl, t1, by rw [hq], ?_, ?_⟩
      · intro h1 h2
        rw [hq] at h2
        have := hDs h1
        by_cases z : q.2 = 0
        · have := t2 z; omega
        · rcases h2 with h2 | h2
          · have t3 := t3 z
            rw [lvE_not c0 h2] at t3
            exact t3.1
          · exact absurd h2 z
      · intro h1 h2 h3
        rw [hq] at h3
        have t3 := t3 h3
        rw [lvE_tie h1 h2] at t3
        have := hDs h1
        exact ⟨t3.1, by omega⟩
    by_cases cf : (if tie W.V l i = true then p.2 else 0) = 0
    · have hti : till ≤ dN W.V l d i := by
        apply hA c0
        by_cases z : tie W.V l i = true
        · rw [if_pos z] at cf; exact Or.inr cf
        · exact Or.inl z
      by_cases ca : nI (W.V.ath (l.getD i 0)) = a
      · have hq : hlF W.V l d a i p = (p.1 + (nI (dN W.V l d (lvE W.V l i)) - nI (dN W.V l d i)), 1) := by unfold hlF; rw [if_pos cf, if_pos ca]
        rw [if_pos ca]
        have hfrom : (if nI (dN W.V l d i) ≤ nI till then nI till else nI (dN W.V l d i)) = nI (dN W.V l d i) := by
          by_cases z : nI (dN W.V l d i) ≤ nI till
          · rw [if_pos z]; rw [nI_leI (by omega) (by omega)] at z; congr 1; omega
          · rw [if_neg z]
        have hgo : (if nI (dN W.V l d i) < nI (dN W.V l d (lvE W.V l i)) then kk (p.1 + (nI (dN W.V l d (lvE W.V l i)) - nI (dN W.V l d i))) (nI (dN W.V l d (lvE W.V l i))) (nI (i + 1)) else kk p.1 (nI till) (nI (i + 1))) = some ((itN (hlF W.V l d a) (0, 0) l.length).1, M) := by
          by_cases z : nI (dN W.V l d i) < nI (dN W.V l d (lvE W.V l i))
          · rw [if_pos z]
            exact key (p.1 + (nI (dN W.V l d (lvE W.V l i)) - nI (dN W.V l d i)), 1) _ hDE (fun h => by cases h) (fun _ => ⟨Nat.le_refl _, by omega⟩) hq
          · rw [if_neg z]
            rw [nI_ltI (by omega) (by omega)] at z
            have he : dN W.V l d (lvE W.V l i) = dN W.V l d i := by omega
            have h0 : p.1 + (nI (dN W.V l d (lvE W.V l i)) - nI (dN W.V l d i)) = p.1 := by rw [he, Int32.sub_self, Int32.add_zero]
            rw [h0] at hq
            exact key (p.1, 1) till ht (fun h => by cases h) (fun _ => ⟨by omega, by omega⟩) hq
        by_cases z : nI (dN W.V l d i) ≤ nI till
        · rw [if_pos z] at hfrom ⊢
          rw [hfrom]; rw [hfrom] at hgo; exact hgo
        · rw [if_neg z]; exact hgo
      · rw [if_neg ca]
        exact key (p.1, (if tie W.V l i = true then p.2 else 0)) till ht (fun _ => hti) (fun h => absurd cf h) (by unfold hlF; rw [if_pos cf, if_neg ca])
    · have hz : tie W.V l i = true := by
        by_cases z : tie W.V l i = true
        · exact z
        · exact absurd (if_neg z) cf
      rw [if_pos hz] at cf
      obtain ⟨b1, b2⟩ := hB c0 hz cf
      have hq : hlF W.V l d a i p = (p.1, p.2) := by unfold hlF; rw [if_pos hz, if_neg cf]
      have hgo := key (p.1, p.2) till ht (fun h => absurd h cf) (fun _ => ⟨b1, b2⟩) hq
      by_cases ca : nI (W.V.ath (l.getD i 0)) = a
      · rw [if_pos ca]
        by_cases z : nI (dN W.V l d i) ≤ nI till
        · rw [if_pos z]
          rw [nI_leI (by omega) (by omega)] at z
          rw [if_neg (fun h => by rw [nI_ltI (by omega) (by omega)] at h; omega)]
          exact hgo
        · rw [if_neg z]
          rw [nI_leI (by omega) (by omega)] at z
          rw [if_neg (fun h => by rw [nI_ltI (by omega) (by omega)] at h; omega)]
          exact hgo
      · rw [if_neg ca]; exact hgo
  · have : i = l.length := by omega
    subst this
    rw [hc.1, if_pos ((nI_leI (by omega) (by omega)).mpr (by omega))]
