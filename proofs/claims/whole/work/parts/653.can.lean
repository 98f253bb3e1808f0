/-! what a field may be -/
def loI (c j : Nat) : Int32 := if c = 0 ∧ j = 1 then -1 else if c = 2 ∧ j = 0 then -30000 else if c = 3 ∧ j = 5 then 1 else if c = 3 ∧ j = 6 then -99 else 0
def hiS (c j : Nat) : Int32 := sT_3.getD (c * 2 + j) 0
def hiI (V : VW) (c j : Nat) : Int32 := if c = 3 ∧ j = 0 then nI V.ne - 1 else if c = 3 ∧ j = 1 then nI V.na - 1 else if c = 3 ∧ j = 2 then nI V.np - 1 else if c = 3 ∧ j = 3 then nI V.td else hiS c j
theorem nI_sub1 {k : Nat} (h : k < 2 ^ 31) : (nI k - 1).toInt = (k : Int) - 1 := by
  rw [Int32.toInt_sub, nI_toInt h, show (1 : Int32).toInt = 1 from rfl, Int.bmod_def]
  split <;> omega
theorem b_dyn {x : Int32} {k : Nat} {hs : Int32} (hk : (k : Int) ≤ hs.toInt) (h31 : k < 2 ^ 31) : (if x < 0 then some false else if x ≤ hs then bp (if x < 0 then some false else if nI k ≤ x then some false else some true) (fun x2 => if x2 = true then some true else some false) else some false) = some (bnd x 0 (nI k - 1)) := by
  unfold bnd
  have e0 : (0 : Int32).toInt = 0 := rfl
  by_cases c1 : x < 0
  · rw [if_pos c1, if_pos c1]
  · rw [if_neg c1, if_neg c1, if_neg c1]
    have c1' := c1
    rw [Int32.lt_iff_toInt_lt, e0] at c1'
    by_cases c2 : x ≤ nI k - 1
    · have c2' := c2
      rw [Int32.le_iff_toInt_le, nI_sub1 h31] at c2'
      rw [if_pos (by rw [Int32.le_iff_toInt_le]; omega), if_neg (fun z => by rw [Int32.le_iff_toInt_le, nI_toInt h31] at z; omega), bp_some, if_pos rfl, decide_eq_true c2]
    · have c2' := c2
      rw [Int32.le_iff_toInt_le, nI_sub1 h31] at c2'
      rw [decide_eq_false c2, if_pos (show nI k ≤ x by rw [Int32.le_iff_toInt_le, nI_toInt h31]; omega), bp_some, if_neg (show ¬ false = true by decide)]
      split <;> rfl
theorem b_day {x : Int32} {k : Nat} {hs : Int32} (hk : (k : Int) ≤ hs.toInt) (h31 : k < 2 ^ 31) : (if x < 0 then some false else if x ≤ hs then bp (if nI k < x then some false else some true) (fun x2 => if x2 = true then some true else some false) else some false) = some (bnd x 0 (nI k)) := by
  unfold bnd
  by_cases c1 : x < 0
  · rw [if_pos c1, if_pos c1]
  · rw [if_neg c1, if_neg c1]
    by_cases c2 : x ≤ nI k
    · have c2' := c2
      rw [Int32.le_iff_toInt_le, nI_toInt h31] at c2'
      rw [if_pos (by rw [Int32.le_iff_toInt_le]; omega), if_neg (fun z => by rw [Int32.lt_iff_toInt_lt, nI_toInt h31] at z; omega), bp_some, if_pos rfl, decide_eq_true c2]
    · have c2' := c2
      rw [Int32.le_iff_toInt_le, nI_toInt h31] at c2'
      rw [decide_eq_false c2, if_pos (show nI k < x by rw [Int32.lt_iff_toInt_lt, nI_toInt h31]; omega), bp_some, if_neg (show ¬ false = true by decide)]
      split <;> rfl
theorem b_sta {x lo hi : Int32} : (if x < lo then some false else if x ≤ hi then some true else some false) = some (bnd x lo hi) := by
  unfold bnd
  by_cases c1 : x < lo
  · rw [if_pos c1, if_pos c1]
  · rw [if_neg c1, if_neg c1]
    by_cases c2 : x ≤ hi
    · rw [if_pos c2, decide_eq_true c2]
    · rw [if_neg c2, decide_eq_false c2]
/-- a field of a told world may be so -/
def fO (c : Nat) : Nat := if c = 3 then 9 else 2
theorem can_0_0 {V : VW} {S : CS} {x : Int32} (hV : VOK V) (h : tC V S) : f_X6_canBe S (nI 0) (nI 0) x (nI V.td) = some (bnd x (loI 0 0) (hiI V 0 0)) := by
  unfold f_X6_canBe
  rw [show (nI 0 * 2) + nI 0 = nI 0 from by decide, lt_eq, if_neg (by decide), if_neg (by decide), chk_nI (by decide) (by decide), chk_nI (by decide) (by decide), nI_clamp (by decide), show sT_2.getD 0 0 = loI 0 0 from rfl, show sT_3.getD 0 0 = hiS 0 0 from rfl]
  rw [if_neg (show ¬ nI 0 = 3 by decide)]
  exact b_sta
theorem can_0_1 {V : VW} {S : CS} {x : Int32} (hV : VOK V) (h : tC V S) : f_X6_canBe S (nI 0) (nI 1) x (nI V.td) = some (bnd x (loI 0 1) (hiI V 0 1)) := by
  unfold f_X6_canBe
  rw [show (nI 0 * 2) + nI 1 = nI 1 from by decide, lt_eq, if_neg (by decide), if_neg (by decide), chk_nI (by decide) (by decide), chk_nI (by decide) (by decide), nI_clamp (by decide), show sT_2.getD 1 0 = loI 0 1 from rfl, show sT_3.getD 1 0 = hiS 0 1 from rfl]
  rw [if_neg (show ¬ nI 0 = 3 by decide)]
  exact b_sta
theorem can_1_0 {V : VW} {S : CS} {x : Int32} (hV : VOK V) (h : tC V S) : f_X6_canBe S (nI 1) (nI 0) x (nI V.td) = some (bnd x (loI 1 0) (hiI V 1 0)) := by
  unfold f_X6_canBe
  rw [show (nI 1 * 2) + nI 0 = nI 2 from by decide, lt_eq, if_neg (by decide), if_neg (by decide), chk_nI (by decide) (by decide), chk_nI (by decide) (by decide), nI_clamp (by decide), show sT_2.getD 2 0 = loI 1 0 from rfl, show sT_3.getD 2 0 = hiS 1 0 from rfl]
  rw [if_neg (show ¬ nI 1 = 3 by decide)]
  exact b_sta
theorem can_1_1 {V : VW} {S : CS} {x : Int32} (hV : VOK V) (h : tC V S) : f_X6_canBe S (nI 1) (nI 1) x (nI V.td) = some (bnd x (loI 1 1) (hiI V 1 1)) := by
  unfold f_X6_canBe
  rw [show (nI 1 * 2) + nI 1 = nI 3 from by decide, lt_eq, if_neg (by decide), if_neg (by decide), chk_nI (by decide) (by decide), chk_nI (by decide) (by decide), nI_clamp (by decide), show sT_2.getD 3 0 = loI 1 1 from rfl, show sT_3.getD 3 0 = hiS 1 1 from rfl]
  rw [if_neg (show ¬ nI 1 = 3 by decide)]
  exact b_sta
theorem can_2_0 {V : VW} {S : CS} {x : Int32} (hV : VOK V) (h : tC V S) : f_X6_canBe S (nI 2) (nI 0) x (nI V.td) = some (bnd x (loI 2 0) (hiI V 2 0)) := by
  unfold f_X6_canBe
  rw [show (nI 2 * 2) + nI 0 = nI 4 from by decide, lt_eq, if_neg (by decide), if_neg (by decide), chk_nI (by decide) (by decide), chk_nI (by decide) (by decide), nI_clamp (by decide), show sT_2.getD 4 0 = loI 2 0 from rfl, show sT_3.getD 4 0 = hiS 2 0 from rfl]
  rw [if_neg (show ¬ nI 2 = 3 by decide)]
  exact b_sta
theorem can_2_1 {V : VW} {S : CS} {x : Int32} (hV : VOK V) (h : tC V S) : f_X6_canBe S (nI 2) (nI 1) x (nI V.td) = some (bnd x (loI 2 1) (hiI V 2 1)) := by
  unfold f_X6_canBe
  rw [show (nI 2 * 2) + nI 1 = nI 5 from by decide, lt_eq, if_neg (by decide), if_neg (by decide), chk_nI (by decide) (by decide), chk_nI (by decide) (by decide), nI_clamp (by decide), show sT_2.getD 5 0 = loI 2 1 from rfl, show sT_3.getD 5 0 = hiS 2 1 from rfl]
  rw [if_neg (show ¬ nI 2 = 3 by decide)]
  exact b_sta
theorem can_3_0 {V : VW} {S : CS} {x : Int32} (hV : VOK V) (h : tC V S) : f_X6_canBe S (nI 3) (nI 0) x (nI V.td) = some (bnd x (loI 3 0) (hiI V 3 0)) := by
  unfold f_X6_canBe
  rw [show (nI 3 * 2) + nI 0 = nI 6 from by decide, lt_eq, if_neg (by decide), if_neg (by decide), chk_nI (by decide) (by decide), chk_nI (by decide) (by decide), nI_clamp (by decide), show sT_2.getD 6 0 = loI 3 0 from rfl, show sT_3.getD 6 0 = hiS 3 0 from rfl]
  rw [if_pos (show nI 3 = 3 from rfl)]
  unfold f_X6_isToldAhead
  have hc := hV.ne
  rw [if_pos (show nI 0 = 0 from rfl), bp_id]
  unfold f_X8_has_pe
  rw [h.ne]
  exact b_dyn (k := V.ne) (hs := hiS 3 0) (by rw [show (hiS 3 0).toInt = 6 from rfl]; omega) (by omega)
theorem can_3_1 {V : VW} {S : CS} {x : Int32} (hV : VOK V) (h : tC V S) : f_X6_canBe S (nI 3) (nI 1) x (nI V.td) = some (bnd x (loI 3 1) (hiI V 3 1)) := by
  unfold f_X6_canBe
  rw [show (nI 3 * 2) + nI 1 = nI 7 from by decide, lt_eq, if_neg (by decide), if_neg (by decide), chk_nI (by decide) (by decide), chk_nI (by decide) (by decide), nI_clamp (by decide), show sT_2.getD 7 0 = loI 3 1 from rfl, show sT_3.getD 7 0 = hiS 3 1 from rfl]
  rw [if_pos (show nI 3 = 3 from rfl)]
  unfold f_X6_isToldAhead
  have hc := hV.na
  rw [if_neg (show ¬ nI 1 = 0 by decide), if_pos (show nI 1 = 1 from rfl), bp_id]
  unfold f_X8_has_pa
  rw [h.na]
  exact b_dyn (k := V.na) (hs := hiS 3 1) (by rw [show (hiS 3 1).toInt = 16 from rfl]; omega) (by omega)
theorem can_3_2 {V : VW} {S : CS} {x : Int32} (hV : VOK V) (h : tC V S) : f_X6_canBe S (nI 3) (nI 2) x (nI V.td) = some (bnd x (loI 3 2) (hiI V 3 2)) := by
  unfold f_X6_canBe
  rw [show (nI 3 * 2) + nI 2 = nI 8 from by decide, lt_eq, if_neg (by decide), if_neg (by decide), chk_nI (by decide) (by decide), chk_nI (by decide) (by decide), nI_clamp (by decide), show sT_2.getD 8 0 = loI 3 2 from rfl, show sT_3.getD 8 0 = hiS 3 2 from rfl]
  rw [if_pos (show nI 3 = 3 from rfl)]
  unfold f_X6_isToldAhead
  have hc := hV.np
  rw [if_neg (show ¬ nI 2 = 0 by decide), if_neg (show ¬ nI 2 = 1 by decide), if_pos (show nI 2 = 2 from rfl), bp_id]
  unfold f_X8_has_pp
  rw [h.np]
  exact b_dyn (k := V.np) (hs := hiS 3 2) (by rw [show (hiS 3 2).toInt = 8 from rfl]; omega) (by omega)
theorem can_3_3 {V : VW} {S : CS} {x : Int32} (hV : VOK V) (h : tC V S) : f_X6_canBe S (nI 3) (nI 3) x (nI V.td) = some (bnd x (loI 3 3) (hiI V 3 3)) := by
  unfold f_X6_canBe
  rw [show (nI 3 * 2) + nI 3 = nI 9 from by decide, lt_eq, if_neg (by decide), if_neg (by decide), chk_nI (by decide) (by decide), chk_nI (by decide) (by decide), nI_clamp (by decide), show sT_2.getD 9 0 = loI 3 3 from rfl, show sT_3.getD 9 0 = hiS 3 3 from rfl]
  rw [if_pos (show nI 3 = 3 from rfl)]
  unfold f_X6_isToldAhead
  have hc := hV.td
  rw [if_neg (show ¬ nI 3 = 0 by decide), if_neg (show ¬ nI 3 = 1 by decide), if_neg (show ¬ nI 3 = 2 by decide), if_pos (show nI 3 = 3 from rfl)]
  exact b_day (k := V.td) (hs := hiS 3 3) (by rw [show (hiS 3 3).toInt = 20000 from rfl]; omega) (by omega)
theorem can_3_4 {V : VW} {S : CS} {x : Int32} (hV : VOK V) (h : tC V S) : f_X6_canBe S (nI 3) (nI 4) x (nI V.td) = some (bnd x (loI 3 4) (hiI V 3 4)) := by
  unfold f_X6_canBe
  rw [show (nI 3 * 2) + nI 4 = nI 10 from by decide, lt_eq, if_neg (by decide), if_neg (by decide), chk_nI (by decide) (by decide), chk_nI (by decide) (by decide), nI_clamp (by decide), show sT_2.getD 10 0 = loI 3 4 from rfl, show sT_3.getD 10 0 = hiS 3 4 from rfl]
  rw [if_pos (show nI 3 = 3 from rfl)]
  unfold f_X6_isToldAhead
  rw [if_neg (show ¬ nI 4 = 0 by decide), if_neg (show ¬ nI 4 = 1 by decide), if_neg (show ¬ nI 4 = 2 by decide), if_neg (show ¬ nI 4 = 3 by decide), bp_some, if_pos rfl]
  exact b_sta
theorem can_3_5 {V : VW} {S : CS} {x : Int32} (hV : VOK V) (h : tC V S) : f_X6_canBe S (nI 3) (nI 5) x (nI V.td) = some (bnd x (loI 3 5) (hiI V 3 5)) := by
  unfold f_X6_canBe
  rw [show (nI 3 * 2) + nI 5 = nI 11 from by decide, lt_eq, if_neg (by decide), if_neg (by decide), chk_nI (by decide) (by decide), chk_nI (by decide) (by decide), nI_clamp (by decide), show sT_2.getD 11 0 = loI 3 5 from rfl, show sT_3.getD 11 0 = hiS 3 5 from rfl]
  rw [if_pos (show nI 3 = 3 from rfl)]
  unfold f_X6_isToldAhead
  rw [if_neg (show ¬ nI 5 = 0 by decide), if_neg (show ¬ nI 5 = 1 by decide), if_neg (show ¬ nI 5 = 2 by decide), if_neg (show ¬ nI 5 = 3 by decide), bp_some, if_pos rfl]
  exact b_sta
theorem can_3_6 {V : VW} {S : CS} {x : Int32} (hV : VOK V) (h : tC V S) : f_X6_canBe S (nI 3) (nI 6) x (nI V.td) = some (bnd x (loI 3 6) (hiI V 3 6)) := by
  unfold f_X6_canBe
  rw [show (nI 3 * 2) + nI 6 = nI 12 from by decide, lt_eq, if_neg (by decide), if_neg (by decide), chk_nI (by decide) (by decide), chk_nI (by decide) (by decide), nI_clamp (by decide), show sT_2.getD 12 0 = loI 3 6 from rfl, show sT_3.getD 12 0 = hiS 3 6 from rfl]
  rw [if_pos (show nI 3 = 3 from rfl)]
  unfold f_X6_isToldAhead
  rw [if_neg (show ¬ nI 6 = 0 by decide), if_neg (show ¬ nI 6 = 1 by decide), if_neg (show ¬ nI 6 = 2 by decide), if_neg (show ¬ nI 6 = 3 by decide), bp_some, if_pos rfl]
  exact b_sta
theorem can_3_7 {V : VW} {S : CS} {x : Int32} (hV : VOK V) (h : tC V S) : f_X6_canBe S (nI 3) (nI 7) x (nI V.td) = some (bnd x (loI 3 7) (hiI V 3 7)) := by
  unfold f_X6_canBe
  rw [show (nI 3 * 2) + nI 7 = nI 13 from by decide, lt_eq, if_neg (by decide), if_neg (by decide), chk_nI (by decide) (by decide), chk_nI (by decide) (by decide), nI_clamp (by decide), show sT_2.getD 13 0 = loI 3 7 from rfl, show sT_3.getD 13 0 = hiS 3 7 from rfl]
  rw [if_pos (show nI 3 = 3 from rfl)]
  unfold f_X6_isToldAhead
  rw [if_neg (show ¬ nI 7 = 0 by decide), if_neg (show ¬ nI 7 = 1 by decide), if_neg (show ¬ nI 7 = 2 by decide), if_neg (show ¬ nI 7 = 3 by decide), bp_some, if_pos rfl]
  exact b_sta
theorem can_3_8 {V : VW} {S : CS} {x : Int32} (hV : VOK V) (h : tC V S) : f_X6_canBe S (nI 3) (nI 8) x (nI V.td) = some (bnd x (loI 3 8) (hiI V 3 8)) := by
  unfold f_X6_canBe
  rw [show (nI 3 * 2) + nI 8 = nI 14 from by decide, lt_eq, if_neg (by decide), if_neg (by decide), chk_nI (by decide) (by decide), chk_nI (by decide) (by decide), nI_clamp (by decide), show sT_2.getD 14 0 = loI 3 8 from rfl, show sT_3.getD 14 0 = hiS 3 8 from rfl]
  rw [if_pos (show nI 3 = 3 from rfl)]
  unfold f_X6_isToldAhead
  rw [if_neg (show ¬ nI 8 = 0 by decide), if_neg (show ¬ nI 8 = 1 by decide), if_neg (show ¬ nI 8 = 2 by decide), if_neg (show ¬ nI 8 = 3 by decide), bp_some, if_pos rfl]
  exact b_sta
theorem can_all {V : VW} {S : CS} {x : Int32} {c j : Nat} (hV : VOK V) (h : tC V S) (hc : c < 4) (hj : j < fO c) : f_X6_canBe S (nI c) (nI j) x (nI V.td) = some (bnd x (loI c j) (hiI V c j)) := by
  match c, hc, j, hj with
  | 0, _, 0, _ => exact can_0_0 hV h
  | 0, _, 1, _ => exact can_0_1 hV h
  | 1, _, 0, _ => exact can_1_0 hV h
  | 1, _, 1, _ => exact can_1_1 hV h
  | 2, _, 0, _ => exact can_2_0 hV h
  | 2, _, 1, _ => exact can_2_1 hV h
  | 3, _, 0, _ => exact can_3_0 hV h
  | 3, _, 1, _ => exact can_3_1 hV h
  | 3, _, 2, _ => exact can_3_2 hV h
  | 3, _, 3, _ => exact can_3_3 hV h
  | 3, _, 4, _ => exact can_3_4 hV h
  | 3, _, 5, _ => exact can_3_5 hV h
  | 3, _, 6, _ => exact can_3_6 hV h
  | 3, _, 7, _ => exact can_3_7 hV h
  | 3, _, 8, _ => exact can_3_8 hV h
  | 0, _, j + 2, hj => exact absurd (show j + 2 < 2 from hj) (by omega)
  | 1, _, j + 2, hj => exact absurd (show j + 2 < 2 from hj) (by omega)
  | 2, _, j + 2, hj => exact absurd (show j + 2 < 2 from hj) (by omega)
  | 3, _, j + 9, hj => exact absurd (show j + 9 < 9 from hj) (by omega)
