/-! fields are put behind what is told -/
def ar (c j : Nat) : Nat := (if c = 0 then 5 else if c = 1 then 8 else if c = 2 then 11 else 13) + j
def cnt (V : VW) (c : Nat) : Nat := if c = 0 then V.ne else if c = 1 then V.np else if c = 2 then V.na else V.n
def mx (c : Nat) : Nat := if c = 0 then 6 else if c = 1 then 8 else if c = 2 then 16 else 60
def dAr : List Nat := [5, 6, 8, 9, 11, 12, 13, 14, 15, 16, 17, 18, 19, 20, 21]
theorem ar_in : ∀ c : Fin 4, ∀ j : Fin 9, j.val < fO c.val → ar c.val j.val ∈ dAr := by decide
theorem ar_inj : ∀ c c' : Fin 4, ∀ j j' : Fin 9, j.val < fO c.val → j'.val < fO c'.val → ar c.val j.val = ar c'.val j'.val → c = c' := by decide
theorem fO_9 {c : Nat} : fO c ≤ 9 := by unfold fO; split <;> omega
def keepC (V : VW) (S S' : CS) : Prop := gI [2, 3, 4, 5] dAr S S' ∧ ∀ c j, c < 4 → j < fO c → ∀ i, i < cnt V c → S'.2.1 (ar c j) i = S.2.1 (ar c j) i
theorem keepC_rf {V : VW} {S : CS} : keepC V S S := ⟨gI_rf, fun _ _ _ _ _ _ => rfl⟩
theorem keepC_gI {V : VW} {S0 S S' : CS} (h : keepC V S0 S) (hg : gI [2, 3, 4, 5] [] S S') : keepC V S0 S' := ⟨gI_tr h.1 hg (fun _ z => z) (by decide), fun c j hc hj i hi => by rw [hg.2.1 _ (by simp)]; exact h.2 c j hc hj i hi⟩
theorem keepC_dr {V : VW} {S0 S : CS} (h : keepC V S0 S) {c j : Nat} (hc : c < 4) (hj : j < fO c) (v : Int32) : keepC V S0 (ca S (ar c j) (upd (S.2.1 (ar c j)) (cnt V c) v)) := by
  have h9 := fO_9 (c := c)
  refine ⟨gI_ca h.1 (ar_in ⟨c, hc⟩ ⟨j, by omega⟩ hj), fun c' j' hc' hj' i hi => ?_⟩
  have h9' := fO_9 (c := c')
  by_cases z : ar c' j' = ar c j
  · have e := ar_inj ⟨c', hc'⟩ ⟨c, hc⟩ ⟨j', by omega⟩ ⟨j, by omega⟩ hj' hj z
    have e : c' = c := congrArg Fin.val e
    rw [z]
    have e1 : (ca S (ar c j) (upd (S.2.1 (ar c j)) (cnt V c) v)).2.1 (ar c j) = upd (S.2.1 (ar c j)) (cnt V c) v := up_eq
    rw [e1, pk_un (by rw [e] at hi; omega), ← z]
    exact h.2 c' j' hc' hj' i hi
  · have e1 : (ca S (ar c j) (upd (S.2.1 (ar c j)) (cnt V c) v)).2.1 (ar c' j') = S.2.1 (ar c' j') := up_ne z
    rw [e1]
    exact h.2 c' j' hc' hj' i hi
theorem tW_keep {W : WW} {S S' : CS} (h : tW W S) (hk : keepC W.V S S') : tW W S' := by
  obtain ⟨hg, hv⟩ := hk
  refine ⟨⟨?_, ?_, ?_, ?_, ?_, ?_, ?_, ?_, ?_, ?_, ?_, ?_, ?_, ?_, ?_, ?_, ?_, ?_, ?_, ?_, ?_, ?_⟩, ?_, ?_, ?_, ?_, ?_, ?_, ?_, ?_, ?_⟩
  · rw [hg.1 0 (by decide)]; exact h.V.td
  · rw [hg.1 7 (by decide)]; exact h.V.ne
  · rw [hg.1 8 (by decide)]; exact h.V.np
  · rw [hg.1 9 (by decide)]; exact h.V.na
  · rw [hg.1 6 (by decide)]; exact h.V.n
  · exact fun i hi => (hv 0 0 (by decide) (by decide) i hi).trans (h.V.e0 i hi)
  · exact fun i hi => (hv 0 1 (by decide) (by decide) i hi).trans (h.V.e1 i hi)
  · exact fun i hi => (hv 1 0 (by decide) (by decide) i hi).trans (h.V.p0 i hi)
  · exact fun i hi => (hv 1 1 (by decide) (by decide) i hi).trans (h.V.p1 i hi)
  · exact fun i hi => (hv 2 0 (by decide) (by decide) i hi).trans (h.V.a0 i hi)
  · exact fun i hi => (hv 2 1 (by decide) (by decide) i hi).trans (h.V.a1 i hi)
  · exact fun i hi => (hv 3 0 (by decide) (by decide) i hi).trans (h.V.ev i hi)
  · exact fun i hi => (hv 3 1 (by decide) (by decide) i hi).trans (h.V.ath i hi)
  · exact fun i hi => (hv 3 2 (by decide) (by decide) i hi).trans (h.V.pl i hi)
  · exact fun i hi => (hv 3 3 (by decide) (by decide) i hi).trans (h.V.dy i hi)
  · exact fun i hi => (hv 3 4 (by decide) (by decide) i hi).trans (h.V.mi i hi)
  · exact fun i hi => (hv 3 5 (by decide) (by decide) i hi).trans (h.V.va i hi)
  · exact fun i hi => (hv 3 6 (by decide) (by decide) i hi).trans (h.V.wi i hi)
  · exact fun i hi => (hv 3 7 (by decide) (by decide) i hi).trans (h.V.sh i hi)
  · exact fun i hi => (hv 3 8 (by decide) (by decide) i hi).trans (h.V.pa i hi)
  · rw [hg.2.1 22 (by decide)]; exact h.V.ra
  · rw [hg.2.1 23 (by decide)]; exact h.V.sk
  · rw [hg.2.1 24 (by decide)]; exact h.o
  · rw [hg.2.2]; exact h.nl
  · rw [hg.2.1 47 (by decide)]; exact h.ne
  · rw [hg.2.2]; exact h.ncl
  · rw [hg.2.1 46 (by decide)]; exact h.nc
  · rw [hg.2.2]; exact h.sl
  · rw [hg.2.1 51 (by decide)]; exact h.se
  · rw [hg.2.2]; exact h.scl
  · rw [hg.2.1 50 (by decide)]; exact h.sc
theorem dr_0_0 {V : VW} {S : CS} {v : Int32} (h : tC V S) (hm : V.ne < 6) : f_X1_draft S (nI 0) (nI 0) v = some (ca S 5 (upd (S.2.1 5) V.ne v)) := by
  unfold f_X1_draft
  rw [if_pos (show nI 0 = 0 from rfl)]
  unfold f_X8_draft_pe f_X8_isFull_pe
  rw [h.ne, if_pos ((show (6 : Int32) = nI 6 from rfl) ▸ (nI_ltI (by omega) (by omega)).mpr hm), bp_some, if_neg (show ¬ false = true by decide), if_pos (show nI 0 = 0 from rfl), chk_nI hm (by decide), lt_eq, nI_clamp (by omega)]
  rfl
theorem dr_0_1 {V : VW} {S : CS} {v : Int32} (h : tC V S) (hm : V.ne < 6) : f_X1_draft S (nI 0) (nI 1) v = some (ca S 6 (upd (S.2.1 6) V.ne v)) := by
  unfold f_X1_draft
  rw [if_pos (show nI 0 = 0 from rfl)]
  unfold f_X8_draft_pe f_X8_isFull_pe
  rw [h.ne, if_pos ((show (6 : Int32) = nI 6 from rfl) ▸ (nI_ltI (by omega) (by omega)).mpr hm), bp_some, if_neg (show ¬ false = true by decide), if_neg (show ¬ nI 1 = 0 by decide), chk_nI hm (by decide), lt_eq, nI_clamp (by omega)]
  rfl
theorem dr_1_0 {V : VW} {S : CS} {v : Int32} (h : tC V S) (hm : V.np < 8) : f_X1_draft S (nI 1) (nI 0) v = some (ca S 8 (upd (S.2.1 8) V.np v)) := by
  unfold f_X1_draft
  rw [if_neg (show ¬ nI 1 = 0 by decide), if_pos (show nI 1 = 1 from rfl)]
  unfold f_X8_draft_pp f_X8_isFull_pp
  rw [h.np, if_pos ((show (8 : Int32) = nI 8 from rfl) ▸ (nI_ltI (by omega) (by omega)).mpr hm), bp_some, if_neg (show ¬ false = true by decide), if_pos (show nI 0 = 0 from rfl), chk_nI hm (by decide), lt_eq, nI_clamp (by omega)]
  rfl
theorem dr_1_1 {V : VW} {S : CS} {v : Int32} (h : tC V S) (hm : V.np < 8) : f_X1_draft S (nI 1) (nI 1) v = some (ca S 9 (upd (S.2.1 9) V.np v)) := by
  unfold f_X1_draft
  rw [if_neg (show ¬ nI 1 = 0 by decide), if_pos (show nI 1 = 1 from rfl)]
  unfold f_X8_draft_pp f_X8_isFull_pp
  rw [h.np, if_pos ((show (8 : Int32) = nI 8 from rfl) ▸ (nI_ltI (by omega) (by omega)).mpr hm), bp_some, if_neg (show ¬ false = true by decide), if_neg (show ¬ nI 1 = 0 by decide), chk_nI hm (by decide), lt_eq, nI_clamp (by omega)]
  rfl
theorem dr_2_0 {V : VW} {S : CS} {v : Int32} (h : tC V S) (hm : V.na < 16) : f_X1_draft S (nI 2) (nI 0) v = some (ca S 11 (upd (S.2.1 11) V.na v)) := by
  unfold f_X1_draft
  rw [if_neg (show ¬ nI 2 = 0 by decide), if_neg (show ¬ nI 2 = 1 by decide), if_pos (show nI 2 = 2 from rfl)]
  unfold f_X8_draft_pa f_X8_isFull_pa
  rw [h.na, if_pos ((show (16 : Int32) = nI 16 from rfl) ▸ (nI_ltI (by omega) (by omega)).mpr hm), bp_some, if_neg (show ¬ false = true by decide), if_pos (show nI 0 = 0 from rfl), chk_nI hm (by decide), lt_eq, nI_clamp (by omega)]
  rfl
theorem dr_2_1 {V : VW} {S : CS} {v : Int32} (h : tC V S) (hm : V.na < 16) : f_X1_draft S (nI 2) (nI 1) v = some (ca S 12 (upd (S.2.1 12) V.na v)) := by
  unfold f_X1_draft
  rw [if_neg (show ¬ nI 2 = 0 by decide), if_neg (show ¬ nI 2 = 1 by decide), if_pos (show nI 2 = 2 from rfl)]
  unfold f_X8_draft_pa f_X8_isFull_pa
  rw [h.na, if_pos ((show (16 : Int32) = nI 16 from rfl) ▸ (nI_ltI (by omega) (by omega)).mpr hm), bp_some, if_neg (show ¬ false = true by decide), if_neg (show ¬ nI 1 = 0 by decide), chk_nI hm (by decide), lt_eq, nI_clamp (by omega)]
  rfl
theorem dr_3_0 {V : VW} {S : CS} {v : Int32} (h : tC V S) (hm : V.n < 60) : f_X1_draft S (nI 3) (nI 0) v = some (ca S 13 (upd (S.2.1 13) V.n v)) := by
  unfold f_X1_draft
  rw [if_neg (show ¬ nI 3 = 0 by decide), if_neg (show ¬ nI 3 = 1 by decide), if_neg (show ¬ nI 3 = 2 by decide)]
  unfold f_X1_draftMark
  rw [h.n, if_neg (fun z => by rw [show (60 : Int32) = nI 60 from rfl, nI_leI (by omega) (by omega)] at z; omega), if_pos (show nI 0 = 0 from rfl), chk_nI hm (by decide), lt_eq, nI_clamp (by omega)]
  rfl
theorem dr_3_1 {V : VW} {S : CS} {v : Int32} (h : tC V S) (hm : V.n < 60) : f_X1_draft S (nI 3) (nI 1) v = some (ca S 14 (upd (S.2.1 14) V.n v)) := by
  unfold f_X1_draft
  rw [if_neg (show ¬ nI 3 = 0 by decide), if_neg (show ¬ nI 3 = 1 by decide), if_neg (show ¬ nI 3 = 2 by decide)]
  unfold f_X1_draftMark
  rw [h.n, if_neg (fun z => by rw [show (60 : Int32) = nI 60 from rfl, nI_leI (by omega) (by omega)] at z; omega), if_neg (show ¬ nI 1 = 0 by decide), if_pos (show nI 1 = 1 from rfl), chk_nI hm (by decide), lt_eq, nI_clamp (by omega)]
  rfl
theorem dr_3_2 {V : VW} {S : CS} {v : Int32} (h : tC V S) (hm : V.n < 60) : f_X1_draft S (nI 3) (nI 2) v = some (ca S 15 (upd (S.2.1 15) V.n v)) := by
  unfold f_X1_draft
  rw [if_neg (show ¬ nI 3 = 0 by decide), if_neg (show ¬ nI 3 = 1 by decide), if_neg (show ¬ nI 3 = 2 by decide)]
  unfold f_X1_draftMark
  rw [h.n, if_neg (fun z => by rw [show (60 : Int32) = nI 60 from rfl, nI_leI (by omega) (by omega)] at z; omega), if_neg (show ¬ nI 2 = 0 by decide), if_neg (show ¬ nI 2 = 1 by decide), if_pos (show nI 2 = 2 from rfl), chk_nI hm (by decide), lt_eq, nI_clamp (by omega)]
  rfl
theorem dr_3_3 {V : VW} {S : CS} {v : Int32} (h : tC V S) (hm : V.n < 60) : f_X1_draft S (nI 3) (nI 3) v = some (ca S 16 (upd (S.2.1 16) V.n v)) := by
  unfold f_X1_draft
  rw [if_neg (show ¬ nI 3 = 0 by decide), if_neg (show ¬ nI 3 = 1 by decide), if_neg (show ¬ nI 3 = 2 by decide)]
  unfold f_X1_draftMark
  rw [h.n, if_neg (fun z => by rw [show (60 : Int32) = nI 60 from rfl, nI_leI (by omega) (by omega)] at z; omega), if_neg (show ¬ nI 3 = 0 by decide), if_neg (show ¬ nI 3 = 1 by decide), if_neg (show ¬ nI 3 = 2 by decide), if_pos (show nI 3 = 3 from rfl), chk_nI hm (by decide), lt_eq, nI_clamp (by omega)]
  rfl
theorem dr_3_4 {V : VW} {S : CS} {v : Int32} (h : tC V S) (hm : V.n < 60) : f_X1_draft S (nI 3) (nI 4) v = some (ca S 17 (upd (S.2.1 17) V.n v)) := by
  unfold f_X1_draft
  rw [if_neg (show ¬ nI 3 = 0 by decide), if_neg (show ¬ nI 3 = 1 by decide), if_neg (show ¬ nI 3 = 2 by decide)]
  unfold f_X1_draftMark
  rw [h.n, if_neg (fun z => by rw [show (60 : Int32) = nI 60 from rfl, nI_leI (by omega) (by omega)] at z; omega), if_neg (show ¬ nI 4 = 0 by decide), if_neg (show ¬ nI 4 = 1 by decide), if_neg (show ¬ nI 4 = 2 by decide), if_neg (show ¬ nI 4 = 3 by decide), if_pos (show nI 4 = 4 from rfl), chk_nI hm (by decide), lt_eq, nI_clamp (by omega)]
  rfl
theorem dr_3_5 {V : VW} {S : CS} {v : Int32} (h : tC V S) (hm : V.n < 60) : f_X1_draft S (nI 3) (nI 5) v = some (ca S 18 (upd (S.2.1 18) V.n v)) := by
  unfold f_X1_draft
  rw [if_neg (show ¬ nI 3 = 0 by decide), if_neg (show ¬ nI 3 = 1 by decide), if_neg (show ¬ nI 3 = 2 by decide)]
  unfold f_X1_draftMark
  rw [h.n, if_neg (fun z => by rw [show (60 : Int32) = nI 60 from rfl, nI_leI (by omega) (by omega)] at z; omega), if_neg (show ¬ nI 5 = 0 by decide), if_neg (show ¬ nI 5 = 1 by decide), if_neg (show ¬ nI 5 = 2 by decide), if_neg (show ¬ nI 5 = 3 by decide), if_neg (show ¬ nI 5 = 4 by decide), if_pos (show nI 5 = 5 from rfl), chk_nI hm (by decide), lt_eq, nI_clamp (by omega)]
  rfl
theorem dr_3_6 {V : VW} {S : CS} {v : Int32} (h : tC V S) (hm : V.n < 60) : f_X1_draft S (nI 3) (nI 6) v = some (ca S 19 (upd (S.2.1 19) V.n v)) := by
  unfold f_X1_draft
  rw [if_neg (show ¬ nI 3 = 0 by decide), if_neg (show ¬ nI 3 = 1 by decide), if_neg (show ¬ nI 3 = 2 by decide)]
  unfold f_X1_draftMark
  rw [h.n, if_neg (fun z => by rw [show (60 : Int32) = nI 60 from rfl, nI_leI (by omega) (by omega)] at z; omega), if_neg (show ¬ nI 6 = 0 by decide), if_neg (show ¬ nI 6 = 1 by decide), if_neg (show ¬ nI 6 = 2 by decide), if_neg (show ¬ nI 6 = 3 by decide), if_neg (show ¬ nI 6 = 4 by decide), if_neg (show ¬ nI 6 = 5 by decide), if_pos (show nI 6 = 6 from rfl), chk_nI hm (by decide), lt_eq, nI_clamp (by omega)]
  rfl
theorem dr_3_7 {V : VW} {S : CS} {v : Int32} (h : tC V S) (hm : V.n < 60) : f_X1_draft S (nI 3) (nI 7) v = some (ca S 20 (upd (S.2.1 20) V.n v)) := by
  unfold f_X1_draft
  rw [if_neg (show ¬ nI 3 = 0 by decide), if_neg (show ¬ nI 3 = 1 by decide), if_neg (show ¬ nI 3 = 2 by decide)]
  unfold f_X1_draftMark
  rw [h.n, if_neg (fun z => by rw [show (60 : Int32) = nI 60 from rfl, nI_leI (by omega) (by omega)] at z; omega), if_neg (show ¬ nI 7 = 0 by decide), if_neg (show ¬ nI 7 = 1 by decide), if_neg (show ¬ nI 7 = 2 by decide), if_neg (show ¬ nI 7 = 3 by decide), if_neg (show ¬ nI 7 = 4 by decide), if_neg (show ¬ nI 7 = 5 by decide), if_neg (show ¬ nI 7 = 6 by decide), if_pos (show nI 7 = 7 from rfl), chk_nI hm (by decide), lt_eq, nI_clamp (by omega)]
  rfl
theorem dr_3_8 {V : VW} {S : CS} {v : Int32} (h : tC V S) (hm : V.n < 60) : f_X1_draft S (nI 3) (nI 8) v = some (ca S 21 (upd (S.2.1 21) V.n v)) := by
  unfold f_X1_draft
  rw [if_neg (show ¬ nI 3 = 0 by decide), if_neg (show ¬ nI 3 = 1 by decide), if_neg (show ¬ nI 3 = 2 by decide)]
  unfold f_X1_draftMark
  rw [h.n, if_neg (fun z => by rw [show (60 : Int32) = nI 60 from rfl, nI_leI (by omega) (by omega)] at z; omega), if_neg (show ¬ nI 8 = 0 by decide), if_neg (show ¬ nI 8 = 1 by decide), if_neg (show ¬ nI 8 = 2 by decide), if_neg (show ¬ nI 8 = 3 by decide), if_neg (show ¬ nI 8 = 4 by decide), if_neg (show ¬ nI 8 = 5 by decide), if_neg (show ¬ nI 8 = 6 by decide), if_neg (show ¬ nI 8 = 7 by decide), chk_nI hm (by decide), lt_eq, nI_clamp (by omega)]
  rfl
theorem dr_all {V : VW} {S : CS} {v : Int32} {c j : Nat} (h : tC V S) (hc : c < 4) (hj : j < fO c) (hm : cnt V c < mx c) : f_X1_draft S (nI c) (nI j) v = some (ca S (ar c j) (upd (S.2.1 (ar c j)) (cnt V c) v)) := by
  match c, hc, j, hj with
  | 0, _, 0, _ => exact dr_0_0 h hm
  | 0, _, 1, _ => exact dr_0_1 h hm
  | 1, _, 0, _ => exact dr_1_0 h hm
  | 1, _, 1, _ => exact dr_1_1 h hm
  | 2, _, 0, _ => exact dr_2_0 h hm
  | 2, _, 1, _ => exact dr_2_1 h hm
  | 3, _, 0, _ => exact dr_3_0 h hm
  | 3, _, 1, _ => exact dr_3_1 h hm
  | 3, _, 2, _ => exact dr_3_2 h hm
  | 3, _, 3, _ => exact dr_3_3 h hm
  | 3, _, 4, _ => exact dr_3_4 h hm
  | 3, _, 5, _ => exact dr_3_5 h hm
  | 3, _, 6, _ => exact dr_3_6 h hm
  | 3, _, 7, _ => exact dr_3_7 h hm
  | 3, _, 8, _ => exact dr_3_8 h hm
  | 0, _, j + 2, hj => exact absurd (show j + 2 < 2 from hj) (by omega)
  | 1, _, j + 2, hj => exact absurd (show j + 2 < 2 from hj) (by omega)
  | 2, _, j + 2, hj => exact absurd (show j + 2 < 2 from hj) (by omega)
  | 3, _, j + 9, hj => exact absurd (show j + 9 < 9 from hj) (by omega)
