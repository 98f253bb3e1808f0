/-! what is asked of a line -/
theorem ite_flip {x y : Int32} {ρ : Type} {A B : ρ} : (if x ≤ y then A else B) = (if y < x then B else A) := by
  by_cases c : x ≤ y
  · rw [if_pos c, if_neg (fun h => by rw [Int32.le_iff_toInt_le] at c; rw [Int32.lt_iff_toInt_lt] at h; omega)]
  · rw [if_neg c, if_pos (by rw [Int32.le_iff_toInt_le] at c; rw [Int32.lt_iff_toInt_lt]; omega)]
def recV (V : VW) (l : List Nat) : Int32 := if l = [] then -1 else nI (V.va (lst l))
theorem len_cases (l : List Nat) : l = [] ∨ ∃ t, l.length = t + 1 ∧ l ≠ [] := by
  cases l with
  | nil => exact Or.inl rfl
  | cons a l => exact Or.inr ⟨l.length, rfl, by simp⟩
theorem c_last1 {V : VW} {S : CS} {l : List Nat} (hV : VOK V) (hS : tC V S) (hl : ∀ y, y ∈ l → y < V.n) (h60 : l.length ≤ 60) (hc : linC S l) : f_X7_lastValue_l1 S = some (recV V l) := by
  unfold f_X7_lastValue_l1 recV
  rw [hc.1]
  rcases len_cases l with rfl | ⟨t, ht, hne⟩
  · rfl
  · have hm := hl _ (getD_mem (l := l) (i := t) (by omega))
    have hb := vk hV hm
    rw [ht, if_neg (nI_ne0 (by omega) (by omega)), nI_pred, chk_nI (by omega) (by decide), nI_clamp (by omega), hc.2 t (by omega), chk_nI (by omega) (by decide), nI_clamp (by omega), hS.va _ hm, if_neg hne]
    unfold lst
    rw [ht]; rfl
theorem c_last2 {V : VW} {S : CS} {l : List Nat} (hV : VOK V) (hS : tC V S) (hl : ∀ y, y ∈ l → y < V.n) (h60 : l.length ≤ 60) (hc : linD S l) : f_X7_lastValue_l2 S = some (recV V l) := by
  unfold f_X7_lastValue_l2 recV
  rw [hc.1]
  rcases len_cases l with rfl | ⟨t, ht, hne⟩
  · rfl
  · have hm := hl _ (getD_mem (l := l) (i := t) (by omega))
    have hb := vk hV hm
    rw [ht, if_neg (nI_ne0 (by omega) (by omega)), nI_pred, chk_nI (by omega) (by decide), nI_clamp (by omega), hc.2 t (by omega), chk_nI (by omega) (by decide), nI_clamp (by omega), hS.va _ hm, if_neg hne]
    unfold lst
    rw [ht]; rfl
theorem m_value {V : VW} {M : MS} {l : List Nat} (hV : VOK V) (hR : tR V (M.2 0)) (hl : ∀ y, y ∈ l → y < V.n) (h60 : l.length ≤ 60) (hc : linM M l) {i : Nat} (hi : i < l.length) : f_X12_value M (nI i) = some (nI (V.va (l.getD i 0))) := by
  have hm := hl _ (getD_mem hi)
  unfold f_X12_value
  rw [chk_nI (by omega) (by decide), nI_clamp (by omega), hc.2 i hi, m_o5 hV hR hm]; rfl
theorem m_rec {V : VW} {M : MS} {l : List Nat} (hV : VOK V) (hR : tR V (M.2 0)) (hl : ∀ y, y ∈ l → y < V.n) (h60 : l.length ≤ 60) (hc : linM M l) : f_X12_recordNow M = some (recV V l) := by
  unfold f_X12_recordNow recV
  rw [hc.1]
  rcases len_cases l with rfl | ⟨t, ht, hne⟩
  · rfl
  · rw [ht, if_neg (nI_ne0 (by omega) (by omega)), nI_pred, m_value hV hR hl h60 hc (by omega), if_neg hne]
    unfold lst
    rw [ht]; rfl
def pick (l : List Nat) (a : Int32) : Int32 := if a = -1 then nI l.length else if inR a l.length = true then nI (l.getD a.toNatClampNeg 0) else -2
theorem c_pick {S : CS} {l : List Nat} (h60 : l.length ≤ 60) (hc : linC S l) (a : Int32) : f_X7_countOrPick_l1 S a = some (pick l a) := by
  unfold f_X7_countOrPick_l1 pick
  rw [hc.1, ite_ge2 l.length (by omega) rfl]
  by_cases c : a = -1
  · rw [if_pos c, if_pos c]
  · rw [if_neg c, if_neg c]
    by_cases c2 : inR a l.length = true
    · obtain ⟨i, hi, rfl⟩ := inR_nI c2
      rw [if_pos c2, if_pos c2, chk_nI (by omega) (by decide), nI_clamp (by omega), hc.2 i hi]
    · rw [if_neg c2, if_neg c2]
theorem m_pick {M : MS} {l : List Nat} (h60 : l.length ≤ 60) (hc : linM M l) (a : Int32) : (if a = -1 then some (M.1 20, M) else bp (f_X12_isIn a 0 (M.1 20 - 1)) (fun x3 => if x3 = true then chk a 60 (some (M.2 19 a.toNatClampNeg, M)) else some (-2, M))) = some (pick l a, M) := by
  unfold pick
  rw [hc.1, isIn_gen (n := l.length) (by omega) rfl, bp_some]
  by_cases c : a = -1
  · rw [if_pos c, if_pos c]
  · rw [if_neg c, if_neg c]
    by_cases c2 : inR a l.length = true
    · obtain ⟨i, hi, rfl⟩ := inR_nI c2
      rw [if_pos c2, if_pos c2, chk_nI (by omega) (by decide), nI_clamp (by omega), hc.2 i hi]
    · rw [if_neg c2, if_neg c2]
def tie (V : VW) (l : List Nat) (i : Nat) : Bool := decide (0 < i ∧ i < l.length ∧ V.va (l.getD i 0) = V.va (l.getD (i - 1) 0))
theorem c_tie {V : VW} {S : CS} {l : List Nat} (hV : VOK V) (hS : tC V S) (hl : ∀ y, y ∈ l → y < V.n) (h60 : l.length ≤ 60) (hc : linC S l) {i : Nat} (hi : i ≤ 60) : f_X7_isTie_l1 S (nI i) = some (tie V l i) := by
  unfold f_X7_isTie_l1 tie
  rw [hc.1]
  by_cases c0 : i = 0
  · subst c0; rfl
  · obtain ⟨j, rfl⟩ : ∃ j, i = j + 1 := ⟨i - 1, by omega⟩
    rw [if_neg (nI_nle (by omega) (by omega))]
    by_cases c : j + 1 < l.length
    · have hm := hl _ (getD_mem c)
      have hb := vk hV hm
      have hm2 := hl _ (getD_mem (show j < l.length by omega))
      have hb2 := vk hV hm2
      rw [if_neg (fun h => by rw [nI_leI (by omega) (by omega)] at h; omega), chk_nI (by omega) (by decide), nI_clamp (by omega), hc.2 _ c, chk_nI (by omega) (by decide), nI_pred, chk_nI (by omega) (by decide), nI_clamp (by omega), hc.2 j (by omega), chk_nI (by omega) (by decide), nI_clamp (by omega), nI_clamp (by omega), hS.va _ hm, hS.va _ hm2]
      rw [show j + 1 - 1 = j from rfl]
      by_cases c3 : V.va (l.getD (j + 1) 0) = V.va (l.getD j 0)
      · rw [if_pos (by rw [c3]), decide_eq_true ⟨by omega, c, c3⟩]
      · rw [if_neg (fun h => c3 ((nI_eq (by omega) (by omega)).mp h)), decide_eq_false (fun h => c3 h.2.2)]
    · rw [if_pos ((nI_leI (by omega) (by omega)).mpr (by omega)), decide_eq_false (fun h => c h.2.1)]
def tieF (V : VW) (l : List Nat) (i : Nat) (a : Int32) : Int32 := a + (if tie V l i = true then 1 else 0)
theorem max1 (n : Nat) : 1 ≤ max 1 n ∧ n ≤ max 1 n ∧ (max 1 n = 1 ∨ max 1 n = n) := by omega
theorem c_ties {V : VW} {S : CS} {l : List Nat} (hV : VOK V) (hS : tC V S) (hl : ∀ y, y ∈ l → y < V.n) (h60 : l.length ≤ 60) (hc : linC S l) : f_X7_countTies_l1 S = some (itN (tieF V l) 0 (max 1 l.length)) := by
  have hx := max1 l.length
  unfold f_X7_countTies_l1 L_X7_countTies_l1_4
  refine lf1 (tieF V l) 0 1 (max 1 l.length) (FU_gt (by omega)) ?_ ?_ rfl rfl hx.1
  · intro i kk h1 h2
    simp only [hc.1, c_tie hV hS hl h60 hc (show i ≤ 60 by omega), bp_some, jn1, lt_eq, nI_1]
    rw [if_neg (fun h => by rw [nI_leI (by omega) (by omega)] at h; omega)]
    unfold tieF
    by_cases c : tie V l i = true
    · rw [if_pos c, if_pos c]
    · rw [if_neg c, if_neg c]
  · intro kk
    rw [hc.1, if_pos ((nI_leI (by omega) (by omega)).mpr (by omega))]
theorem m_ties {V : VW} {M : MS} {l : List Nat} (hV : VOK V) (hR : tR V (M.2 0)) (hl : ∀ y, y ∈ l → y < V.n) (h60 : l.length ≤ 60) (hc : linM M l) : L_X12_ties_26 M (fun x => some (x, M)) FU 0 1 = some (itN (tieF V l) 0 (max 1 l.length), M) := by
  have hx := max1 l.length
  unfold L_X12_ties_26
  refine lf1 (tieF V l) 0 1 (max 1 l.length) (FU_gt (by omega)) ?_ ?_ rfl rfl hx.1
  · intro i kk h1 h2
    obtain ⟨j, rfl⟩ : ∃ j, i = j + 1 := ⟨i - 1, by omega⟩
    have hb := vk hV (hl _ (getD_mem (l := l) (i := j + 1) (by omega)))
    have hb2 := vk hV (hl _ (getD_mem (l := l) (i := j) (by omega)))
    simp only [hc.1, m_value hV hR hl h60 hc (show j + 1 < l.length by omega), nI_pred, m_value hV hR hl h60 hc (show j < l.length by omega), bp_some, jn1, lt_eq, nI_1]
    rw [if_neg (fun h => by rw [nI_leI (by omega) (by omega)] at h; omega)]
    unfold tieF tie
    rw [show j + 1 - 1 = j from rfl]
    by_cases c : V.va (l.getD (j + 1) 0) = V.va (l.getD j 0)
    · rw [if_pos (by rw [c]), decide_eq_true ⟨by omega, by omega, c⟩]; rfl
    · rw [if_neg (fun h => c ((nI_eq (by omega) (by omega)).mp h)), decide_eq_false (fun h => c h.2.2)]; rfl
  · intro kk
    rw [hc.1, if_pos ((nI_leI (by omega) (by omega)).mpr (by omega))]
/-- the day of the i-th; behind the last the day till which is asked -/
def dN (V : VW) (l : List Nat) (d i : Nat) : Nat := if i < l.length then V.dy (l.getD i 0) else d
theorem c_dayAt {V : VW} {S : CS} {l : List Nat} (hV : VOK V) (hS : tC V S) (hl : ∀ y, y ∈ l → y < V.n) (h60 : l.length ≤ 60) (hc : linC S l) {i d : Nat} (hi : i ≤ 60) : f_X7_dayAt_l1 S (nI i) (nI d) = some (nI (dN V l d i)) := by
  unfold f_X7_dayAt_l1 dN
  rw [hc.1]
  by_cases c : i < l.length
  · have hm := hl _ (getD_mem c)
    have hb := vk hV hm
    rw [if_neg (fun h => by rw [nI_leI (by omega) (by omega)] at h; omega), chk_nI (by omega) (by decide), nI_clamp (by omega), hc.2 i c, chk_nI (by omega) (by decide), nI_clamp (by omega), hS.dy _ hm, if_pos c]
  · rw [if_pos ((nI_leI (by omega) (by omega)).mpr (by omega)), if_neg c]
def drF (V : VW) (l : List Nat) (d i : Nat) (a : Int32) : Int32 := if a < nI (dN V l d (i + 1)) - nI (dN V l d i) then nI (dN V l d (i + 1)) - nI (dN V l d i) else a
theorem c_drought {V : VW} {S : CS} {l : List Nat} {d : Nat} (hV : VOK V) (hS : tC V S) (hl : ∀ y, y ∈ l → y < V.n) (h60 : l.length ≤ 60) (hc : linC S l) : f_X7_longestGap_l1 S (nI d) = some (itN (drF V l d) 0 l.length) := by
  unfold f_X7_longestGap_l1 L_X7_longestGap_l1_4
  refine lf1 (drF V l d) 0 0 l.length (FU_gt (by omega)) ?_ ?_ rfl rfl (Nat.zero_le _)
  · intro i kk h1 h2
    simp only [hc.1, nI_1, c_dayAt hV hS hl h60 hc (show i ≤ 60 by omega), c_dayAt hV hS hl h60 hc (show i + 1 ≤ 60 by omega), bp_some, lt_eq]
    rw [if_neg (fun h => by rw [nI_leI (by omega) (by omega)] at h; omega)]
    rfl
  · intro kk
    rw [hc.1, if_pos ((nI_leI (by omega) (by omega)).mpr (by omega))]
theorem m_drought {V : VW} {M : MS} {l : List Nat} {d : Nat} (hV : VOK V) (hR : tR V (M.2 0)) (hl : ∀ y, y ∈ l → y < V.n) (h60 : l.length ≤ 60) (hc : linM M l) : L_X12_drought_26 M (nI d) (fun x => some (x, M)) FU 0 0 = some (itN (drF V l d) 0 l.length, M) := by
  unfold L_X12_drought_26
  refine lf1 (drF V l d) 0 0 l.length (FU_gt (by omega)) ?_ ?_ rfl rfl (Nat.zero_le _)
  · intro i kk h1 h2
    have hm := hl _ (getD_mem h2)
    simp only [hc.1, nI_1, chk_nI (show i < 60 by omega) (by decide), nI_clamp (show i < 2 ^ 31 by omega), hc.2 i h2, m_o3 hV hR hm, bp_some, lt_eq, jn1, ite_flip]
    rw [if_pos ((nI_ltI (by omega) (by omega)).mpr h2)]
    have e0 : dN V l d i = V.dy (l.getD i 0) := if_pos h2
    unfold drF
    rw [e0]
    by_cases c : i + 1 < l.length
    · have hm2 := hl _ (getD_mem c)
      have e1 : dN V l d (i + 1) = V.dy (l.getD (i + 1) 0) := if_pos c
      rw [if_pos ((nI_ltI (by omega) (by omega)).mpr c), chk_nI (show i + 1 < 60 by omega) (by decide), nI_clamp (show i + 1 < 2 ^ 31 by omega), hc.2 _ c, m_o3 hV hR hm2, bp_some, e1]
      split <;> rfl
    · have e1 : dN V l d (i + 1) = d := if_neg c
      rw [if_neg (fun h => c ((nI_ltI (by omega) (by omega)).mp h)), e1]
      split <;> rfl
  · intro kk
    rw [hc.1, if_pos ((nI_leI (by omega) (by omega)).mpr (by omega))]
def atF (V : VW) (l : List Nat) (d m : Nat) (i : Nat) (a : Int32) : Int32 := if V.dy (l.getD i 0) < d ∨ V.dy (l.getD i 0) = d ∧ ¬ m < V.mi (l.getD i 0) then nI (l.getD i 0) else a
theorem c_at {V : VW} {S : CS} {l : List Nat} {d m : Nat} (hd : d ≤ 20000) (hm : m ≤ 1439) (hV : VOK V) (hS : tC V S) (hl : ∀ y, y ∈ l → y < V.n) (h60 : l.length ≤ 60) (hc : linC S l) : f_X7_latestTill_l1 S (nI d) (nI m) = some (itN (atF V l d m) (-1) l.length) := by
  unfold f_X7_latestTill_l1 L_X7_latestTill_l1_5
  refine lf1 (atF V l d m) (-1) 0 l.length (FU_gt (by omega)) ?_ ?_ rfl rfl (Nat.zero_le _)
  · intro i kk h1 h2
    have hk := hl _ (getD_mem h2)
    have hb := vk hV hk
    simp only [hc.1, nI_1, chk_nI (show i < 60 by omega) (by decide), nI_clamp (show i < 2 ^ 31 by omega), hc.2 i h2, lt_eq, chk_nI (show l.getD i 0 < 60 by omega) (by decide), nI_clamp (show l.getD i 0 < 2 ^ 31 by omega), hS.dy _ hk, hS.mi _ hk, jn0, nI_ltI (show V.dy (l.getD i 0) < 2 ^ 31 by omega) (show d < 2 ^ 31 by omega), nI_eq (show V.dy (l.getD i 0) < 2 ^ 31 by omega) (show d < 2 ^ 31 by omega), nI_ltI (show m < 2 ^ 31 by omega) (show V.mi (l.getD i 0) < 2 ^ 31 by omega)]
    rw [if_neg (fun h => by rw [nI_leI (by omega) (by omega)] at h; omega)]
    unfold atF
    by_cases c1 : V.dy (l.getD i 0) < d
    · rw [if_pos c1, if_pos (Or.inl c1)]
    · rw [if_neg c1]
      by_cases c2 : V.dy (l.getD i 0) = d
      · rw [if_pos c2]
        by_cases c3 : m < V.mi (l.getD i 0)
        · rw [if_pos c3, if_neg (fun h => h.elim c1 (fun h => h.2 c3))]
        · rw [if_neg c3, if_pos (Or.inr ⟨c2, c3⟩)]
      · rw [if_neg c2, if_neg (fun h => h.elim c1 (fun h => c2 h.1))]
  · intro kk
    rw [hc.1, if_pos ((nI_leI (by omega) (by omega)).mpr (by omega))]
theorem m_at {V : VW} {M : MS} {l : List Nat} {d m : Nat} (hd : d ≤ 20000) (hm : m ≤ 1439) (hV : VOK V) (hR : tR V (M.2 0)) (hl : ∀ y, y ∈ l → y < V.n) (h60 : l.length ≤ 60) (hc : linM M l) : L_X12_at_43 M (nI d) (nI m) (fun x => some (x, M)) FU (-1) 0 = some (itN (atF V l d m) (-1) l.length, M) := by
  unfold L_X12_at_43
  refine lf1 (atF V l d m) (-1) 0 l.length (FU_gt (by omega)) ?_ ?_ rfl rfl (Nat.zero_le _)
  · intro i kk h1 h2
    have hk := hl _ (getD_mem h2)
    have hb := vk hV hk
    simp only [hc.1, nI_1, chk_nI (show i < 60 by omega) (by decide), nI_clamp (show i < 2 ^ 31 by omega), hc.2 i h2, lt_eq, m_o3 hV hR hk, m_o4 hV hR hk, bp_some, jn0, nI_ltI (show V.dy (l.getD i 0) < 2 ^ 31 by omega) (show d < 2 ^ 31 by omega), nI_eq (show V.dy (l.getD i 0) < 2 ^ 31 by omega) (show d < 2 ^ 31 by omega), nI_ltI (show m < 2 ^ 31 by omega) (show V.mi (l.getD i 0) < 2 ^ 31 by omega)]
    rw [if_neg (fun h => by rw [nI_leI (by omega) (by omega)] at h; omega)]
    unfold atF
    by_cases c1 : V.dy (l.getD i 0) < d
    · rw [if_pos c1, if_pos (Or.inl c1)]
    · rw [if_neg c1]
      by_cases c2 : V.dy (l.getD i 0) = d
      · rw [if_pos c2]
        by_cases c3 : m < V.mi (l.getD i 0)
        · rw [if_pos c3, if_neg (fun h => h.elim c1 (fun h => h.2 c3))]
        · rw [if_neg c3, if_pos (Or.inr ⟨c2, c3⟩)]
      · rw [if_neg c2, if_neg (fun h => h.elim c1 (fun h => c2 h.1))]
  · intro kk
    rw [hc.1, if_pos ((nI_leI (by omega) (by omega)).mpr (by omega))]
