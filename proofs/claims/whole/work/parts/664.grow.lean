/-! told worlds grow -/
theorem pre_rf {W : WW} (hw : WOK W) : pre W W := ⟨Nat.le_refl _, Nat.le_refl _, Nat.le_refl _, Nat.le_refl _, rfl, fun _ _ => rfl, fun _ _ => rfl, fun _ _ => rfl, fun _ _ => rfl, fun _ _ => rfl, fun _ _ => rfl, fun _ _ => rfl, fun _ _ => rfl, fun _ _ => rfl, fun _ _ => rfl, fun _ _ => rfl, fun _ _ => rfl, fun _ _ => rfl, fun _ _ => rfl, fun _ _ => rfl, fun _ _ => rfl, fun _ _ => rfl, filt_all hw.me, rfl⟩
theorem pre_tr {W0 W1 W2 : WW} (h : pre W0 W1) (h2 : pre W1 W2) : pre W0 W2 := by
  refine ⟨Nat.le_trans h.ne h2.ne, Nat.le_trans h.np h2.np, Nat.le_trans h.na h2.na, Nat.le_trans h.n h2.n, h2.td.trans h.td, fun i hi => (h2.e0 i (Nat.lt_of_lt_of_le hi h.ne)).trans (h.e0 i hi), fun i hi => (h2.e1 i (Nat.lt_of_lt_of_le hi h.ne)).trans (h.e1 i hi), fun i hi => (h2.p0 i (Nat.lt_of_lt_of_le hi h.np)).trans (h.p0 i hi), fun i hi => (h2.p1 i (Nat.lt_of_lt_of_le hi h.np)).trans (h.p1 i hi), fun i hi => (h2.a0 i (Nat.lt_of_lt_of_le hi h.na)).trans (h.a0 i hi), fun i hi => (h2.a1 i (Nat.lt_of_lt_of_le hi h.na)).trans (h.a1 i hi), fun i hi => (h2.ev i (Nat.lt_of_lt_of_le hi h.n)).trans (h.ev i hi), fun i hi => (h2.ath i (Nat.lt_of_lt_of_le hi h.n)).trans (h.ath i hi), fun i hi => (h2.pl i (Nat.lt_of_lt_of_le hi h.n)).trans (h.pl i hi), fun i hi => (h2.dy i (Nat.lt_of_lt_of_le hi h.n)).trans (h.dy i hi), fun i hi => (h2.mi i (Nat.lt_of_lt_of_le hi h.n)).trans (h.mi i hi), fun i hi => (h2.va i (Nat.lt_of_lt_of_le hi h.n)).trans (h.va i hi), fun i hi => (h2.wi i (Nat.lt_of_lt_of_le hi h.n)).trans (h.wi i hi), fun i hi => (h2.sh i (Nat.lt_of_lt_of_le hi h.n)).trans (h.sh i hi), fun i hi => (h2.pa i (Nat.lt_of_lt_of_le hi h.n)).trans (h.pa i hi), fun i hi => (h2.ra i (Nat.lt_of_lt_of_le hi h.n)).trans (h.ra i hi), fun i hi => (h2.sk i (Nat.lt_of_lt_of_le hi h.n)).trans (h.sk i hi), ?_, h2.fm.trans h.fm⟩
  have hn := h.n
  rw [← h.L, ← h2.L, List.filter_filter]
  congr 1
  funext y
  by_cases z : y < W0.V.n
  · rw [decide_eq_true z, decide_eq_true (show y < W1.V.n by omega)]; rfl
  · rw [decide_eq_false z]; rfl
/-- what the reference counts -/
def szS (V : VW) : Nat := V.ne + V.np + V.na + V.n
theorem m_count {W : WW} {M : MS} (h : tA W (M.2 0)) : f_X12_countItems M = some (nI (szS W.V)) := by
  have k0 : M.2 0 (0 : Int32).toNatClampNeg = nI W.V.ne := h.R.ne
  have k1 : M.2 0 (1 : Int32).toNatClampNeg = nI W.V.np := h.R.np
  have k2 : M.2 0 (2 : Int32).toNatClampNeg = nI W.V.na := h.R.na
  have k3 : M.2 0 (3 : Int32).toNatClampNeg = nI W.V.n := h.R.n
  unfold f_X12_countItems
  rw [k0, k1, k2, k3, nI_add, nI_add, nI_add]
  rfl
