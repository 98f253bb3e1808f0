/-! an act is read -/
theorem FU_5 : FU = 19995 + 1 + 1 + 1 + 1 + 1 := rfl
theorem a_init {bb : Nat → Nat} {n p k L : Nat} {S : CS} {M : MS} (h : rdS bb n p S) (hm : rdM bb n p M) (hp : p < n) (hk : k < 30) (hct : M.1 28 = nI k) (hr : actR k S M) (hf : S.1 5 = M.1 7) : aI bb n S M p k L 0 (ci (ca S 31 (upd (S.2.1 31) k (nI L))) 2 (S.1 2 + 1)) (sa (si M 6 (M.1 6 + 1)) 26 (upd (M.2 26) (4 * k) (nI L))) (p + 1) := by
  refine ⟨⟨h.l, (by show S.1 2 + 1 = _; rw [h.p, nI_1]), h.b⟩, ⟨hm.l, (by show M.1 6 + 1 = _; rw [hm.p, nI_1]), hm.b⟩, by omega, hp, gI_ci (gI_ca gI_rf (by decide)) (by decide), fI_sa (fI_si fI_rf (by decide)) (by decide), hf, hct, ?_, pk_us, pk_us, fun i hi => (by omega)⟩
  intro i hi
  obtain ⟨L', q1, q2, q3, q4⟩ := hr i hi
  have e31 : (ci (ca S 31 (upd (S.2.1 31) k (nI L))) 2 (S.1 2 + 1)).2.1 31 = upd (S.2.1 31) k (nI L) := rfl
  have e26 : (sa (si M 6 (M.1 6 + 1)) 26 (upd (M.2 26) (4 * k) (nI L))).2 26 = upd (M.2 26) (4 * k) (nI L) := rfl
  refine ⟨L', q1, by rw [e31, pk_un (by omega)]; exact q2, by rw [e26, pk_un (by omega)]; exact q3, fun j hj => ?_⟩
  have := actC_3 (L := L')
  rw [e26, pk_un (by omega)]
  exact q4 j hj
theorem plc_at {l : List Nat} {k i : Nat} (hi : i < l.length) (h : l.getD i 0 = k) (hj : ∀ j, j < i → l.getD j 0 ≠ k) : plc l k = nI i := plcP_un (plc_is l k) (Or.inr ⟨i, hi, rfl, h, hj⟩)
theorem plc_no {l : List Nat} {k : Nat} (h : k ∉ l) : plc l k = -1 := plcP_un (plc_is l k) (Or.inl ⟨rfl, h⟩)

theorem a_one_114 {bb : Nat → Nat} {n p k : Nat} {S : CS} {M : MS} (ho : bbO bb n) (h : rdS bb n p S) (hm : rdM bb n p M) (hp : p < n) (hct : M.1 28 = nI k) (hr : actR k S M) (hf : S.1 5 = M.1 7) (hk : k < 30) (hb : bb p = 114) : aQ bb n S M p k (f_X0_readAct S (nI k)) (f_X12_readAct M) := by
  have hs : sg bb n p = nI 114 := by unfold sg; rw [if_pos hp, hb]
  have hl : lx_2 bb n p = nI 0 := by
    unfold lx_2
    rw [if_pos hp, hb]
    exact plc_at (by decide) rfl (by decide)
  have h4 : (4 : Int32) * nI k = nI (4 * k) := pk_mul 4 k
  have e28 : (si M 6 (M.1 6 + 1)).1 28 = nI k := hct
  have h0 := a_init (L := 114) h hm hp hk hct hr hf
  have x1 : nI (4 * k) + 1 = nI (4 * k + 1 + 0) := nI_1 _
  have x2 : nI (4 * k) + 2 = nI (4 * k + 1 + 1) := nI_add _ 2
  have x3 : nI (4 * k) + 3 = nI (4 * k + 1 + 2) := nI_add _ 3
  unfold f_X0_readAct f_X12_readAct
  rw [c_peek ho h (by omega), m_here ho hm (by omega), bp_some, bp_some, ix_2_sg ho, bp_some, hl, hs]
  simp only [jn0, jn1]
  rw [if_neg (show ¬ nI 0 < 0 by decide), if_neg (show ¬ 5 ≤ nI 0 by decide), if_pos ((show (30 : Int32) = nI 30 from rfl) ▸ (nI_ltI (by omega) (by omega)).mpr hk), bp_some, chk_nI hk (by decide), lt_eq, nI_clamp (by omega)]
  rw [if_neg (show ¬ M.1 28 = 30 from fun z => by rw [hct, show (30 : Int32) = nI 30 from rfl, nI_eq (by omega) (by omega)] at z; omega)]
  unfold f_X10_step
  rw [lt_eq, bp_some]
  rw [if_pos (show nI 114 = 114 from rfl)]
  rw [lt_eq, e28, lt_eq, h4, chk_nI (by omega) (by decide), lt_eq, nI_clamp (by omega), x1, FU_5]
  rw [show (0 : Int32) = nI 0 from rfl]
  simp only [show (nI 114 = 112) = False from eq_false (by decide), show (nI 114 = 98) = False from eq_false (by decide), if_false]
  exact a_last (j := 0) ho hk (by unfold actL; omega) (by decide) rfl rfl h0
theorem a_one_115 {bb : Nat → Nat} {n p k : Nat} {S : CS} {M : MS} (ho : bbO bb n) (h : rdS bb n p S) (hm : rdM bb n p M) (hp : p < n) (hct : M.1 28 = nI k) (hr : actR k S M) (hf : S.1 5 = M.1 7) (hk : k < 30) (hb : bb p = 115) : aQ bb n S M p k (f_X0_readAct S (nI k)) (f_X12_readAct M) := by
  have hs : sg bb n p = nI 115 := by unfold sg; rw [if_pos hp, hb]
  have hl : lx_2 bb n p = nI 1 := by
    unfold lx_2
    rw [if_pos hp, hb]
    exact plc_at (by decide) rfl (by decide)
  have h4 : (4 : Int32) * nI k = nI (4 * k) := pk_mul 4 k
  have e28 : (si M 6 (M.1 6 + 1)).1 28 = nI k := hct
  have h0 := a_init (L := 115) h hm hp hk hct hr hf
  have x1 : nI (4 * k) + 1 = nI (4 * k + 1 + 0) := nI_1 _
  have x2 : nI (4 * k) + 2 = nI (4 * k + 1 + 1) := nI_add _ 2
  have x3 : nI (4 * k) + 3 = nI (4 * k + 1 + 2) := nI_add _ 3
  unfold f_X0_readAct f_X12_readAct
  rw [c_peek ho h (by omega), m_here ho hm (by omega), bp_some, bp_some, ix_2_sg ho, bp_some, hl, hs]
  simp only [jn0, jn1]
  rw [if_neg (show ¬ nI 1 < 0 by decide), if_neg (show ¬ 5 ≤ nI 1 by decide), if_pos ((show (30 : Int32) = nI 30 from rfl) ▸ (nI_ltI (by omega) (by omega)).mpr hk), bp_some, chk_nI hk (by decide), lt_eq, nI_clamp (by omega)]
  rw [if_neg (show ¬ M.1 28 = 30 from fun z => by rw [hct, show (30 : Int32) = nI 30 from rfl, nI_eq (by omega) (by omega)] at z; omega)]
  unfold f_X10_step
  rw [lt_eq, bp_some]
  rw [if_neg (show ¬ nI 115 = 114 by decide), if_pos (show nI 115 = 115 from rfl)]
  rw [lt_eq, e28, lt_eq, h4, chk_nI (by omega) (by decide), lt_eq, nI_clamp (by omega), x1, FU_5]
  rw [show (0 : Int32) = nI 0 from rfl]
  simp only [show (nI 115 = 112) = False from eq_false (by decide), show (nI 115 = 98) = False from eq_false (by decide), if_false]
  exact a_last (j := 0) ho hk (by unfold actL; omega) (by decide) rfl rfl h0
theorem a_one_100 {bb : Nat → Nat} {n p k : Nat} {S : CS} {M : MS} (ho : bbO bb n) (h : rdS bb n p S) (hm : rdM bb n p M) (hp : p < n) (hct : M.1 28 = nI k) (hr : actR k S M) (hf : S.1 5 = M.1 7) (hk : k < 30) (hb : bb p = 100) : aQ bb n S M p k (f_X0_readAct S (nI k)) (f_X12_readAct M) := by
  have hs : sg bb n p = nI 100 := by unfold sg; rw [if_pos hp, hb]
  have hl : lx_2 bb n p = nI 2 := by
    unfold lx_2
    rw [if_pos hp, hb]
    exact plc_at (by decide) rfl (by decide)
  have h4 : (4 : Int32) * nI k = nI (4 * k) := pk_mul 4 k
  have e28 : (si M 6 (M.1 6 + 1)).1 28 = nI k := hct
  have h0 := a_init (L := 100) h hm hp hk hct hr hf
  have x1 : nI (4 * k) + 1 = nI (4 * k + 1 + 0) := nI_1 _
  have x2 : nI (4 * k) + 2 = nI (4 * k + 1 + 1) := nI_add _ 2
  have x3 : nI (4 * k) + 3 = nI (4 * k + 1 + 2) := nI_add _ 3
  unfold f_X0_readAct f_X12_readAct
  rw [c_peek ho h (by omega), m_here ho hm (by omega), bp_some, bp_some, ix_2_sg ho, bp_some, hl, hs]
  simp only [jn0, jn1]
  rw [if_neg (show ¬ nI 2 < 0 by decide), if_neg (show ¬ 5 ≤ nI 2 by decide), if_pos ((show (30 : Int32) = nI 30 from rfl) ▸ (nI_ltI (by omega) (by omega)).mpr hk), bp_some, chk_nI hk (by decide), lt_eq, nI_clamp (by omega)]
  rw [if_neg (show ¬ M.1 28 = 30 from fun z => by rw [hct, show (30 : Int32) = nI 30 from rfl, nI_eq (by omega) (by omega)] at z; omega)]
  unfold f_X10_step
  rw [lt_eq, bp_some]
  rw [if_neg (show ¬ nI 100 = 114 by decide), if_neg (show ¬ nI 100 = 115 by decide), if_pos (show nI 100 = 100 from rfl)]
  rw [lt_eq, e28, lt_eq, h4, chk_nI (by omega) (by decide), lt_eq, nI_clamp (by omega), x1, FU_5]
  rw [show (0 : Int32) = nI 0 from rfl]
  simp only [show (nI 100 = 112) = False from eq_false (by decide), show (nI 100 = 98) = False from eq_false (by decide), if_false]
  exact a_last (j := 0) ho hk (by unfold actL; omega) (by decide) rfl rfl h0
theorem a_one_112 {bb : Nat → Nat} {n p k : Nat} {S : CS} {M : MS} (ho : bbO bb n) (h : rdS bb n p S) (hm : rdM bb n p M) (hp : p < n) (hct : M.1 28 = nI k) (hr : actR k S M) (hf : S.1 5 = M.1 7) (hk : k < 30) (hb : bb p = 112) : aQ bb n S M p k (f_X0_readAct S (nI k)) (f_X12_readAct M) := by
  have hs : sg bb n p = nI 112 := by unfold sg; rw [if_pos hp, hb]
  have hl : lx_2 bb n p = nI 3 := by
    unfold lx_2
    rw [if_pos hp, hb]
    exact plc_at (by decide) rfl (by decide)
  have h4 : (4 : Int32) * nI k = nI (4 * k) := pk_mul 4 k
  have e28 : (si M 6 (M.1 6 + 1)).1 28 = nI k := hct
  have h0 := a_init (L := 112) h hm hp hk hct hr hf
  have x1 : nI (4 * k) + 1 = nI (4 * k + 1 + 0) := nI_1 _
  have x2 : nI (4 * k) + 2 = nI (4 * k + 1 + 1) := nI_add _ 2
  have x3 : nI (4 * k) + 3 = nI (4 * k + 1 + 2) := nI_add _ 3
  unfold f_X0_readAct f_X12_readAct
  rw [c_peek ho h (by omega), m_here ho hm (by omega), bp_some, bp_some, ix_2_sg ho, bp_some, hl, hs]
  simp only [jn0, jn1]
  rw [if_neg (show ¬ nI 3 < 0 by decide), if_neg (show ¬ 5 ≤ nI 3 by decide), if_pos ((show (30 : Int32) = nI 30 from rfl) ▸ (nI_ltI (by omega) (by omega)).mpr hk), bp_some, chk_nI hk (by decide), lt_eq, nI_clamp (by omega)]
  rw [if_neg (show ¬ M.1 28 = 30 from fun z => by rw [hct, show (30 : Int32) = nI 30 from rfl, nI_eq (by omega) (by omega)] at z; omega)]
  unfold f_X10_step
  rw [lt_eq, bp_some]
  rw [if_neg (show ¬ nI 112 = 114 by decide), if_neg (show ¬ nI 112 = 115 by decide), if_neg (show ¬ nI 112 = 100 by decide), if_pos (show nI 112 = 112 from rfl)]
  rw [lt_eq, e28, lt_eq, h4, chk_nI (by omega) (by decide), lt_eq, nI_clamp (by omega), x1, FU_5]
  rw [show (0 : Int32) = nI 0 from rfl]
  simp only [show (nI 112 = 112) = True from eq_true rfl, show (nI 112 = 98) = False from eq_false (by decide), if_false, if_true, x2]
  refine a_more (j := 0) ho hk (by decide) rfl (by decide) h0 (fun S1 M1 p1 h1 => ?_)
  exact a_last (j := 1) ho hk (by unfold actL; omega) (by decide) rfl rfl h1
theorem a_one_98 {bb : Nat → Nat} {n p k : Nat} {S : CS} {M : MS} (ho : bbO bb n) (h : rdS bb n p S) (hm : rdM bb n p M) (hp : p < n) (hct : M.1 28 = nI k) (hr : actR k S M) (hf : S.1 5 = M.1 7) (hk : k < 30) (hb : bb p = 98) : aQ bb n S M p k (f_X0_readAct S (nI k)) (f_X12_readAct M) := by
  have hs : sg bb n p = nI 98 := by unfold sg; rw [if_pos hp, hb]
  have hl : lx_2 bb n p = nI 4 := by
    unfold lx_2
    rw [if_pos hp, hb]
    exact plc_at (by decide) rfl (by decide)
  have h4 : (4 : Int32) * nI k = nI (4 * k) := pk_mul 4 k
  have e28 : (si M 6 (M.1 6 + 1)).1 28 = nI k := hct
  have h0 := a_init (L := 98) h hm hp hk hct hr hf
  have x1 : nI (4 * k) + 1 = nI (4 * k + 1 + 0) := nI_1 _
  have x2 : nI (4 * k) + 2 = nI (4 * k + 1 + 1) := nI_add _ 2
  have x3 : nI (4 * k) + 3 = nI (4 * k + 1 + 2) := nI_add _ 3
  unfold f_X0_readAct f_X12_readAct
  rw [c_peek ho h (by omega), m_here ho hm (by omega), bp_some, bp_some, ix_2_sg ho, bp_some, hl, hs]
  simp only [jn0, jn1]
  rw [if_neg (show ¬ nI 4 < 0 by decide), if_neg (show ¬ 5 ≤ nI 4 by decide), if_pos ((show (30 : Int32) = nI 30 from rfl) ▸ (nI_ltI (by omega) (by omega)).mpr hk), bp_some, chk_nI hk (by decide), lt_eq, nI_clamp (by omega)]
  rw [if_neg (show ¬ M.1 28 = 30 from fun z => by rw [hct, show (30 : Int32) = nI 30 from rfl, nI_eq (by omega) (by omega)] at z; omega)]
  unfold f_X10_step
  rw [lt_eq, bp_some]
  rw [if_neg (show ¬ nI 98 = 114 by decide), if_neg (show ¬ nI 98 = 115 by decide), if_neg (show ¬ nI 98 = 100 by decide), if_neg (show ¬ nI 98 = 112 by decide), if_pos (show nI 98 = 98 from rfl)]
  rw [lt_eq, e28, lt_eq, h4, chk_nI (by omega) (by decide), lt_eq, nI_clamp (by omega), x1, FU_5]
  rw [show (0 : Int32) = nI 0 from rfl]
  simp only [show (nI 98 = 112) = False from eq_false (by decide), show (nI 98 = 98) = True from eq_true rfl, if_false, if_true, x2, x3]
  refine a_more (j := 0) ho hk (by decide) rfl (by decide) h0 (fun S1 M1 p1 h1 => ?_)
  refine a_more (j := 1) ho hk (by decide) rfl (by decide) h1 (fun S2 M2 p2 h2 => ?_)
  exact a_last (j := 2) ho hk (by unfold actL; omega) (by decide) rfl rfl h2
