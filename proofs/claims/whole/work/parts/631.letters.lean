/-! letters in rows -/
def ltr_0 : List Nat := [101, 112, 97, 109]
theorem ltr_0_b (i : Nat) (h : i < 4) : sB_0.getD i 0 = nI (ltr_0.getD i 0) ∧ ltr_0.getD i 0 < 128 := by
  match i, h with
  | 0, _ => exact ⟨rfl, by decide⟩
  | 1, _ => exact ⟨rfl, by decide⟩
  | 2, _ => exact ⟨rfl, by decide⟩
  | 3, _ => exact ⟨rfl, by decide⟩
theorem ix_0 {b : Nat} (hb : b < 256) : f_J0_indexOf_0f7a4_s0 (nI b) = some (plc ltr_0 b) := by
  have e1 : f_J0_isLatin1_aae02_s0 = some true := rfl
  have e2 : f_J0_length_8abf5_s0 = some 4 := rfl
  have e3 : f_J1_canEncode_9a6ad (nI b) = some true := by
    unfold f_J1_canEncode_9a6ad
    rw [if_neg (nI_pos (by omega)), if_neg (fun z => by rw [show (255 : Int32) = nI 255 from rfl, nI_ltI (by omega) (by omega)] at z; omega)]
  unfold f_J0_indexOf_0f7a4_s0 f_J0_indexOf_7cf53_s0 f_J1_indexOf_4cfef_sb0 f_J1_indexOfChar_4cfef_sb0
  rw [e1, bp_some, if_pos rfl, e2, bp_some, e3, bp_some, if_pos rfl, lt_eq, lt_eq, if_neg (show ¬ (0 : Int32) < 0 by decide), if_neg (show ¬ (4 : Int32) < 4 by decide), if_pos (by decide), lt_eq]
  have hl : L_J1_indexOfChar_4cfef_sb0_7 4 (nI b).toInt8.toInt32 (some (-1)) FU 0 = some (plc ltr_0 b) := by
    show L_J1_indexOfChar_4cfef_sb0_7 (nI 4) (nI b).toInt8.toInt32 (some (-1)) FU (nI 0) = some (plc ltr_0 b)
    unfold L_J1_indexOfChar_4cfef_sb0_7
    refine lq1 (Q := fun o => o = some (plc ltr_0 b)) 4 (fun i => ∀ j, j < i → ltr_0.getD j 0 ≠ b) ?_ 0 rfl (Nat.zero_le _) (FU_gt (by omega)) (fun j hj => by omega)
    intro i kk hi hp hr
    by_cases c : i < 4
    · obtain ⟨q1, q2⟩ := ltr_0_b i c
      rw [if_neg (fun h => by rw [nI_leI (by omega) (by omega)] at h; omega), chk_nI c (by decide), nI_clamp (by omega), q1]
      by_cases e : ltr_0.getD i 0 = b
      · rw [if_pos ((ix_eq hb q2).mpr e)]
        exact congrArg some (plcP_un (l := ltr_0) (k := b) (Or.inr ⟨i, c, rfl, e, hp⟩) (plc_is ltr_0 b))
      · rw [if_neg (fun h => e ((ix_eq hb q2).mp h)), lt_eq, nI_1]
        refine hr c (fun j hj => ?_)
        by_cases z : j = i
        · subst z; exact e
        · exact hp j (by omega)
    · have : i = 4 := by omega
      subst this
      rw [if_pos (by decide)]
      refine congrArg some (plcP_un (Or.inl ⟨rfl, ?_⟩) (plc_is ltr_0 b))
      intro h
      obtain ⟨j, h1, h2⟩ := mem_ix h
      exact hp j h1 h2
  rw [hl]; rfl
theorem ix_0_no : f_J0_indexOf_0f7a4_s0 (nI 65535) = some (-1) := by
  have e1 : f_J0_isLatin1_aae02_s0 = some true := rfl
  have e2 : f_J0_length_8abf5_s0 = some 4 := rfl
  have e3 : f_J1_canEncode_9a6ad (nI 65535) = some false := rfl
  unfold f_J0_indexOf_0f7a4_s0 f_J0_indexOf_7cf53_s0 f_J1_indexOf_4cfef_sb0
  rw [e1, bp_some, if_pos rfl, e2, bp_some, e3]; rfl
/-- the letter's place for the sign at p -/
noncomputable def lx_0 (bb : Nat → Nat) (n p : Nat) : Int32 := if p < n then plc ltr_0 (bb p) else -1
theorem ix_0_sg {bb : Nat → Nat} {n p : Nat} (ho : bbO bb n) : f_J0_indexOf_0f7a4_s0 (((sg bb n p).toUInt32 % 65536).toInt32) = some (lx_0 bb n p) := by
  rw [ch_sg ho]
  unfold lx_0
  by_cases c : p < n
  · rw [if_pos c, if_pos c, ix_0 (ho.b p c)]
  · rw [if_neg c, if_neg c, ix_0_no]
def ltr_1 : List Nat := [118, 119, 115, 104, 103, 101, 100, 109, 108, 98, 120, 121, 122]
theorem ltr_1_b (i : Nat) (h : i < 13) : sB_1.getD i 0 = nI (ltr_1.getD i 0) ∧ ltr_1.getD i 0 < 128 := by
  match i, h with
  | 0, _ => exact ⟨rfl, by decide⟩
  | 1, _ => exact ⟨rfl, by decide⟩
  | 2, _ => exact ⟨rfl, by decide⟩
  | 3, _ => exact ⟨rfl, by decide⟩
  | 4, _ => exact ⟨rfl, by decide⟩
  | 5, _ => exact ⟨rfl, by decide⟩
  | 6, _ => exact ⟨rfl, by decide⟩
  | 7, _ => exact ⟨rfl, by decide⟩
  | 8, _ => exact ⟨rfl, by decide⟩
  | 9, _ => exact ⟨rfl, by decide⟩
  | 10, _ => exact ⟨rfl, by decide⟩
  | 11, _ => exact ⟨rfl, by decide⟩
  | 12, _ => exact ⟨rfl, by decide⟩
theorem ix_1 {b : Nat} (hb : b < 256) : f_J0_indexOf_0f7a4_s1 (nI b) = some (plc ltr_1 b) := by
  have e1 : f_J0_isLatin1_aae02_s1 = some true := rfl
  have e2 : f_J0_length_8abf5_s1 = some 13 := rfl
  have e3 : f_J1_canEncode_9a6ad (nI b) = some true := by
    unfold f_J1_canEncode_9a6ad
    rw [if_neg (nI_pos (by omega)), if_neg (fun z => by rw [show (255 : Int32) = nI 255 from rfl, nI_ltI (by omega) (by omega)] at z; omega)]
  unfold f_J0_indexOf_0f7a4_s1 f_J0_indexOf_7cf53_s1 f_J1_indexOf_4cfef_sb1 f_J1_indexOfChar_4cfef_sb1
  rw [e1, bp_some, if_pos rfl, e2, bp_some, e3, bp_some, if_pos rfl, lt_eq, lt_eq, if_neg (show ¬ (0 : Int32) < 0 by decide), if_neg (show ¬ (13 : Int32) < 13 by decide), if_pos (by decide), lt_eq]
  have hl : L_J1_indexOfChar_4cfef_sb1_7 13 (nI b).toInt8.toInt32 (some (-1)) FU 0 = some (plc ltr_1 b) := by
    show L_J1_indexOfChar_4cfef_sb1_7 (nI 13) (nI b).toInt8.toInt32 (some (-1)) FU (nI 0) = some (plc ltr_1 b)
    unfold L_J1_indexOfChar_4cfef_sb1_7
    refine lq1 (Q := fun o => o = some (plc ltr_1 b)) 13 (fun i => ∀ j, j < i → ltr_1.getD j 0 ≠ b) ?_ 0 rfl (Nat.zero_le _) (FU_gt (by omega)) (fun j hj => by omega)
    intro i kk hi hp hr
    by_cases c : i < 13
    · obtain ⟨q1, q2⟩ := ltr_1_b i c
      rw [if_neg (fun h => by rw [nI_leI (by omega) (by omega)] at h; omega), chk_nI c (by decide), nI_clamp (by omega), q1]
      by_cases e : ltr_1.getD i 0 = b
      · rw [if_pos ((ix_eq hb q2).mpr e)]
        exact congrArg some (plcP_un (l := ltr_1) (k := b) (Or.inr ⟨i, c, rfl, e, hp⟩) (plc_is ltr_1 b))
      · rw [if_neg (fun h => e ((ix_eq hb q2).mp h)), lt_eq, nI_1]
        refine hr c (fun j hj => ?_)
        by_cases z : j = i
        · subst z; exact e
        · exact hp j (by omega)
    · have : i = 13 := by omega
      subst this
      rw [if_pos (by decide)]
      refine congrArg some (plcP_un (Or.inl ⟨rfl, ?_⟩) (plc_is ltr_1 b))
      intro h
      obtain ⟨j, h1, h2⟩ := mem_ix h
      exact hp j h1 h2
  rw [hl]; rfl
theorem ix_1_no : f_J0_indexOf_0f7a4_s1 (nI 65535) = some (-1) := by
  have e1 : f_J0_isLatin1_aae02_s1 = some true := rfl
  have e2 : f_J0_length_8abf5_s1 = some 13 := rfl
  have e3 : f_J1_canEncode_9a6ad (nI 65535) = some false := rfl
  unfold f_J0_indexOf_0f7a4_s1 f_J0_indexOf_7cf53_s1 f_J1_indexOf_4cfef_sb1
  rw [e1, bp_some, if_pos rfl, e2, bp_some, e3]; rfl
/-- the letter's place for the sign at p -/
noncomputable def lx_1 (bb : Nat → Nat) (n p : Nat) : Int32 := if p < n then plc ltr_1 (bb p) else -1
theorem ix_1_sg {bb : Nat → Nat} {n p : Nat} (ho : bbO bb n) : f_J0_indexOf_0f7a4_s1 (((sg bb n p).toUInt32 % 65536).toInt32) = some (lx_1 bb n p) := by
  rw [ch_sg ho]
  unfold lx_1
  by_cases c : p < n
  · rw [if_pos c, if_pos c, ix_1 (ho.b p c)]
  · rw [if_neg c, if_neg c, ix_1_no]
def ltr_2 : List Nat := [114, 115, 100, 112, 98]
theorem ltr_2_b (i : Nat) (h : i < 5) : sB_2.getD i 0 = nI (ltr_2.getD i 0) ∧ ltr_2.getD i 0 < 128 := by
  match i, h with
  | 0, _ => exact ⟨rfl, by decide⟩
  | 1, _ => exact ⟨rfl, by decide⟩
  | 2, _ => exact ⟨rfl, by decide⟩
  | 3, _ => exact ⟨rfl, by decide⟩
  | 4, _ => exact ⟨rfl, by decide⟩
theorem ix_2 {b : Nat} (hb : b < 256) : f_J0_indexOf_0f7a4_s2 (nI b) = some (plc ltr_2 b) := by
  have e1 : f_J0_isLatin1_aae02_s2 = some true := rfl
  have e2 : f_J0_length_8abf5_s2 = some 5 := rfl
  have e3 : f_J1_canEncode_9a6ad (nI b) = some true := by
    unfold f_J1_canEncode_9a6ad
    rw [if_neg (nI_pos (by omega)), if_neg (fun z => by rw [show (255 : Int32) = nI 255 from rfl, nI_ltI (by omega) (by omega)] at z; omega)]
  unfold f_J0_indexOf_0f7a4_s2 f_J0_indexOf_7cf53_s2 f_J1_indexOf_4cfef_sb2 f_J1_indexOfChar_4cfef_sb2
  rw [e1, bp_some, if_pos rfl, e2, bp_some, e3, bp_some, if_pos rfl, lt_eq, lt_eq, if_neg (show ¬ (0 : Int32) < 0 by decide), if_neg (show ¬ (5 : Int32) < 5 by decide), if_pos (by decide), lt_eq]
  have hl : L_J1_indexOfChar_4cfef_sb2_7 5 (nI b).toInt8.toInt32 (some (-1)) FU 0 = some (plc ltr_2 b) := by
    show L_J1_indexOfChar_4cfef_sb2_7 (nI 5) (nI b).toInt8.toInt32 (some (-1)) FU (nI 0) = some (plc ltr_2 b)
    unfold L_J1_indexOfChar_4cfef_sb2_7
    refine lq1 (Q := fun o => o = some (plc ltr_2 b)) 5 (fun i => ∀ j, j < i → ltr_2.getD j 0 ≠ b) ?_ 0 rfl (Nat.zero_le _) (FU_gt (by omega)) (fun j hj => by omega)
    intro i kk hi hp hr
    by_cases c : i < 5
    · obtain ⟨q1, q2⟩ := ltr_2_b i c
      rw [if_neg (fun h => by rw [nI_leI (by omega) (by omega)] at h; omega), chk_nI c (by decide), nI_clamp (by omega), q1]
      by_cases e : ltr_2.getD i 0 = b
      · rw [if_pos ((ix_eq hb q2).mpr e)]
        exact congrArg some (plcP_un (l := ltr_2) (k := b) (Or.inr ⟨i, c, rfl, e, hp⟩) (plc_is ltr_2 b))
      · rw [if_neg (fun h => e ((ix_eq hb q2).mp h)), lt_eq, nI_1]
        refine hr c (fun j hj => ?_)
        by_cases z : j = i
        · subst z; exact e
        · exact hp j (by omega)
    · have : i = 5 := by omega
      subst this
      rw [if_pos (by decide)]
      refine congrArg some (plcP_un (Or.inl ⟨rfl, ?_⟩) (plc_is ltr_2 b))
      intro h
      obtain ⟨j, h1, h2⟩ := mem_ix h
      exact hp j h1 h2
  rw [hl]; rfl
theorem ix_2_no : f_J0_indexOf_0f7a4_s2 (nI 65535) = some (-1) := by
  have e1 : f_J0_isLatin1_aae02_s2 = some true := rfl
  have e2 : f_J0_length_8abf5_s2 = some 5 := rfl
  have e3 : f_J1_canEncode_9a6ad (nI 65535) = some false := rfl
  unfold f_J0_indexOf_0f7a4_s2 f_J0_indexOf_7cf53_s2 f_J1_indexOf_4cfef_sb2
  rw [e1, bp_some, if_pos rfl, e2, bp_some, e3]; rfl
/-- the letter's place for the sign at p -/
noncomputable def lx_2 (bb : Nat → Nat) (n p : Nat) : Int32 := if p < n then plc ltr_2 (bb p) else -1
theorem ix_2_sg {bb : Nat → Nat} {n p : Nat} (ho : bbO bb n) : f_J0_indexOf_0f7a4_s2 (((sg bb n p).toUInt32 % 65536).toInt32) = some (lx_2 bb n p) := by
  rw [ch_sg ho]
  unfold lx_2
  by_cases c : p < n
  · rw [if_pos c, if_pos c, ix_2 (ho.b p c)]
  · rw [if_neg c, if_neg c, ix_2_no]
