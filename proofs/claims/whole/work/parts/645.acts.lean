/-! acts -/
theorem FU_2 : FU = 19998 + 1 + 1 := by unfold FU; decide
theorem actK_1 (M' : MS) : (fun (S14 : MS) (x15 : Int32) => lt (si S14 5 0) fun S16 => (if x15 = 0 then some ((-1 : Int32), S16) else lt (si S16 29 0) fun S17 => lt (si S17 30 (-1)) fun S18 => L_X12_acts_55 (fun S30 => some (S30.1 29, S30)) FU S18)) M' 1 = L_X12_acts_55 (fun S30 => some (S30.1 29, S30)) FU (si (si (si M' 5 0) 29 0) 30 (-1)) := by
  show lt (si M' 5 0) _ = _
  rw [lt_eq, if_neg (by decide), lt_eq, lt_eq]
theorem actK_0 (M' : MS) : (fun (S14 : MS) (x15 : Int32) => lt (si S14 5 0) fun S16 => (if x15 = 0 then some ((-1 : Int32), S16) else lt (si S16 29 0) fun S17 => lt (si S17 30 (-1)) fun S18 => L_X12_acts_55 (fun S30 => some (S30.1 29, S30)) FU S18)) M' 0 = some (-1, si M' 5 0) := by
  show lt (si M' 5 0) _ = _
  rw [lt_eq, if_pos rfl]
theorem q_acts (T : XS) (M : MS) (h : RLL T M) : ∃ (r : Int32) (T' : XS) (M' : MS), fo_acts T = some (r, T') ∧ fm_acts M = some (r, M') ∧ RLL T' M' := by
  obtain ⟨W, Ws, hh⟩ := id h
  obtain ⟨n, ht⟩ := hh.r.tl
  obtain ⟨bb, ho, hbS, hbM⟩ := tape_bb (S := T.1) (M := M) (n := n) ht
  have hn := ho.n
  have hS1 : rdS bb n 0 (ci (ci T.1 2 0) 5 (-1)) := ⟨ht.2.1, rfl, hbS⟩
  have hM1 : rdM bb n 0 (si (si (si M 6 0) 7 (-1)) 28 0) := ⟨ht.2.2.1, rfl, hbM⟩
  unfold fo_acts fm_acts fx_acts f_X12_acts f_X10_beginReading f_X12_beginText f_X0_readFrom
  rw [lt_eq, lt_eq, bp_some, lt_eq, lt_eq, bp_some, lt_eq]
  have hQ := rd_loop (ci (ci T.1 2 0) 5 (-1)) (si (si (si M 6 0) 7 (-1)) 28 0) (fun S14 x15 => lt (si S14 5 0) fun S16 => (if x15 = 0 then some ((-1 : Int32), S16) else lt (si S16 29 0) fun S17 => lt (si S17 30 (-1)) fun S18 => L_X12_acts_55 (fun S30 => some (S30.1 29, S30)) FU S18)) ho 19998 _ _ 0 0 (by omega) hS1 hM1 (by omega) (by omega) rfl (fun i hi => (by omega)) ⟨gI_rf, fI_rf, rfl⟩
  rw [← FU_2, show nI 0 = (0 : Int32) from rfl] at hQ
  obtain ⟨S', M', ⟨g1, g2, g3⟩, hQ⟩ := hQ
  have G1 : gI [1, 2, 3, 4, 5, 17, 18] [2, 31, 32, 33] T.1 S' := gI_tr (gI_ci (gI_ci gI_rf (by decide)) (by decide)) g1 (by decide) (by decide)
  have G2 : fI [5, 6, 7, 8, 28, 29, 30] [4, 26, 27] M M' := fI_tr (fI_si (fI_si (fI_si fI_rf (by decide)) (by decide)) (by decide)) g2 (by decide) (by decide)
  have e17 : S'.1 17 = T.1.1 17 := g1.1 17 (by decide)
  have e18 : S'.1 18 = T.1.1 18 := g1.1 18 (by decide)
  have e33 : S'.2.1 33 = T.1.2.1 33 := g1.2.1 33 (by decide)
  have e29 : M'.1 29 = M.1 29 := g2.1 29 (by decide)
  have e30 : M'.1 30 = M.1 30 := g2.1 30 (by decide)
  have e27 : M'.2 27 = M.2 27 := g2.2 27 (by decide)
  have t0 : ∀ {A : CS} {B : MS}, A.1 1 = nI 0 → B.1 5 = nI 0 → tapeR A B 0 := fun h1 h2 => ⟨by decide, h1, h2, fun i hi => (by omega)⟩
  rcases hQ with ⟨c, hc, q1, q2, q3, q4⟩ | ⟨q1, q2⟩
  · have q1 : L_X0_readFrom_2 (fun S13 x14 => some (x14, S13)) FU (ci (ci T.1 2 0) 5 (-1)) 0 = some (nI c, S') := q1
    have q2 := q2.trans (actK_1 M')
    rw [q1, q2, bw_some, lt_eq, if_neg (nI_nm1 (by omega)), chk_nI (by omega) (by decide), nI_clamp (by omega)]
    unfold f_X0_begin
    rw [lt_eq, lt_eq, bp_some]
    refine a_run hc c FU _ _ (FU_gt (by omega)) (Nat.le_refl c) (RL_a h (gI_ci (gI_ci (gI_ci G1 (by decide)) (by decide)) (by decide)) (fI_si (fI_si (fI_si G2 (by decide)) (by decide)) (by decide)) (t0 rfl rfl) g3 ⟨0, by decide, rfl, rfl, fun i hi => (by omega)⟩ rfl) q3 q4 ?_
    rw [Nat.sub_self]; rfl
  · have q1 : L_X0_readFrom_2 (fun S13 x14 => some (x14, S13)) FU (ci (ci T.1 2 0) 5 (-1)) 0 = some (-1, S') := q1
    have q2 := q2.trans (actK_0 M')
    rw [q1, q2, bw_some, lt_eq, if_pos rfl]
    refine ⟨_, _, _, rfl, rfl, RL_a h (gI_ci G1 (by decide)) (fI_si G2 (by decide)) (t0 rfl rfl) g3 ?_ ?_⟩
    · show ∃ n, n ≤ 30 ∧ S'.1 17 = nI n ∧ M'.1 29 = nI n ∧ ∀ i, i < n → S'.2.1 33 i = M'.2 27 i
      rw [e17, e29, e33, e27]; exact hh.r.ac
    · show S'.1 18 = M'.1 30
      rw [e18, e30]; exact hh.r.en
