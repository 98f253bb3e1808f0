/-! cutting back to sizes -/
theorem getD_app_l {l m : List Nat} {i : Nat} (h : i < l.length) : (l ++ m).getD i 0 = l.getD i 0 := by
  rw [List.getD_eq_getElem?_getD, List.getD_eq_getElem?_getD, List.getElem?_append_left h]
theorem getD_app_e {l : List Nat} {y : Nat} : (l ++ [y]).getD l.length 0 = y := by
  rw [List.getD_eq_getElem?_getD, List.getElem?_append_right (Nat.le_refl _), Nat.sub_self]; rfl
def fl (L : List Nat) (n0 i : Nat) : List Nat := (L.take i).filter (fun y => decide (y < n0))
theorem fl_s {L : List Nat} {n0 i : Nat} (h : i < L.length) : fl L n0 (i + 1) = if L.getD i 0 < n0 then fl L n0 i ++ [L.getD i 0] else fl L n0 i := by
  unfold fl
  rw [take_s h, List.filter_append]
  by_cases c : L.getD i 0 < n0
  · rw [if_pos c, List.filter_cons, if_pos (decide_eq_true c)]; rfl
  · rw [if_neg c, List.filter_cons, if_neg (by rw [decide_eq_false c]; decide)]
    exact List.append_nil _
theorem fl_len {L : List Nat} {n0 i : Nat} : (fl L n0 i).length ≤ i := Nat.le_trans (List.length_filter_le _ _) (List.length_take_le _ _)
theorem c_cutL {S : CS} {L : List Nat} {n0 : Nat} {K : CS → Option CS} (hL60 : L.length ≤ 60) (hLb : ∀ y, y ∈ L → y < 60) (hn0 : n0 ≤ 60) (h6 : S.1 6 = nI L.length) (ho : hold (S.2.1 24) L) : ∃ S', L_X1_cutToSizes_98 (nI n0) K FU S (nI 0) (nI 0) = K S' ∧ gI [] [24] S S' ∧ hold (S'.2.1 24) (L.filter (fun y => decide (y < n0))) := by
  unfold L_X1_cutToSizes_98
  refine lq3 (Q := fun o => ∃ S', o = K S' ∧ gI [] [24] S S' ∧ hold (S'.2.1 24) (L.filter (fun y => decide (y < n0)))) L.length (fun i S1 x5 => x5 = nI (fl L n0 i).length ∧ gI [] [24] S S1 ∧ hold (S1.2.1 24) (fl L n0 i) ∧ ∀ j, i ≤ j → j < L.length → S1.2.1 24 j = nI (L.getD j 0)) ?_ 0 rfl (Nat.zero_le _) (FU_gt (by omega)) ⟨rfl, gI_rf, fun i hi => absurd hi (Nat.not_lt_zero _), fun j _ hj => ho j hj⟩
  rintro i S1 x5 kk hi ⟨rfl, hg, h1, h2⟩ hr
  have e6 : S1.1 6 = nI L.length := by rw [hg.1 6 (by decide)]; exact h6
  have hfl := fl_len (L := L) (n0 := n0) (i := i)
  rw [e6]
  by_cases c : i < L.length
  · have hy := hLb _ (getD_mem c)
    rw [if_neg (fun z => by rw [nI_leI (by omega) (by omega)] at z; omega), chk_nI (by omega) (by decide), nI_clamp (by omega), h2 i (Nat.le_refl _) c]
    by_cases cy : L.getD i 0 < n0
    · rw [if_neg (fun z => by rw [nI_leI (by omega) (by omega)] at z; omega), chk_nI (by omega) (by decide), chk_nI (by omega) (by decide), lt_eq, lt_eq, lt_eq, nI_1, nI_1, nI_clamp (by omega)]
      refine hr _ _ c ⟨?_, gI_ca hg (by decide), ?_, ?_⟩
      · rw [fl_s c, if_pos cy, List.length_append]; rfl
      · rw [fl_s c, if_pos cy]
        intro j hj
        rw [List.length_append] at hj
        have hj : j < (fl L n0 i).length + 1 := hj
        show upd (S1.2.1 24) (fl L n0 i).length (nI (L.getD i 0)) j = _
        by_cases z : j = (fl L n0 i).length
        · subst z; rw [pk_us, getD_app_e]
        · rw [pk_un z, getD_app_l (by omega)]
          exact h1 j (by omega)
      · intro j hj1 hj2
        show upd (S1.2.1 24) (fl L n0 i).length (nI (L.getD i 0)) j = _
        rw [pk_un (by omega)]
        exact h2 j (by omega) hj2
    · rw [if_pos ((nI_leI (by omega) (by omega)).mpr (by omega)), lt_eq, nI_1]
      refine hr _ _ c ⟨?_, hg, ?_, fun j hj1 hj2 => h2 j (by omega) hj2⟩
      · rw [fl_s c, if_neg cy]
      · rw [fl_s c, if_neg cy]; exact h1
  · have : i = L.length := by omega
    subst this
    rw [if_pos ((nI_leI (by omega) (by omega)).mpr (Nat.le_refl _))]
    refine ⟨S1, rfl, hg, ?_⟩
    have : fl L n0 L.length = L.filter (fun y => decide (y < n0)) := by unfold fl; rw [List.take_length]
    rw [← this]; exact h1
/-- the sizes in one number -/
def szN (a b c d : Nat) : Nat := a + 256 * b + 65536 * c + 16777216 * d
theorem lN_32 {a : Nat} (h : a < 2 ^ 31) : (lN a).toInt32 = nI a := by
  apply Int32.toBitVec_inj.mp
  apply BitVec.eq_of_toNat_eq
  show ((BitVec.ofNat 64 a).signExtend 32).toNat = (BitVec.ofNat 32 a).toNat
  rw [BitVec.signExtend_eq_setWidth_of_le _ (by decide), BitVec.toNat_setWidth, BitVec.toNat_ofNat, BitVec.toNat_ofNat]
  omega
theorem sz_0 {a b c d : Nat} (ha : a < 256) (hb : b < 256) (hc : c < 256) (hd : d < 256) : ((lN (szN a b c d)) &&& 255).toInt32 = nI a := by
  rw [show (255 : Int64) = lN 255 from rfl, lN_and, show (255 : Nat) = 2 ^ 8 - 1 from rfl, Nat.and_two_pow_sub_one_eq_mod, lN_32 (by unfold szN; omega)]
  congr 1
  unfold szN; omega
theorem sz_k {a b c d : Nat} (ha : a < 256) (hb : b < 256) (hc : c < 256) (hd : d < 256) {k : Nat} (hk : k < 60) : ((lN (szN a b c d) >>> ((nI k).toInt64 &&& 63)) &&& 255).toInt32 = nI (szN a b c d / 2 ^ k % 256) := by
  rw [l_shr (j := k) (by unfold szN; omega) (sh_j ⟨k, hk⟩), show (255 : Int64) = lN 255 from rfl, lN_and, show (255 : Nat) = 2 ^ 8 - 1 from rfl, Nat.and_two_pow_sub_one_eq_mod, Nat.shiftRight_eq_div_pow, lN_32 (by omega)]
