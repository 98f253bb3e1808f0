/-! one act -/
theorem c_astep {k ix cnt j m : Nat} {K : CS → Option (Bool × CS)} {S : CS} (hk : k < 30) (hix : ix < 5) (hc : sT_4.getD ix 0 = nI cnt) (hcnt : cnt ≤ 3) (hj : j < cnt) : L_X0_readAct_51 (nI k) (nI ix) K (m + 1) S (nI j) = bw (f_X10_readNumber S) (fun x16 S17 => if x16 = true then bw (f_X10_pass (ca S17 32 (upd (S17.2.1 32) (3 * k + j) (S17.1 3))) (nI (if j + 1 = cnt then 59 else 44))) (fun x20 S21 => if x20 = true then L_X0_readAct_51 (nI k) (nI ix) K m S21 (nI (j + 1)) else some (false, S21)) else some (false, S17)) := by
  have hkj : nI k * 3 + nI j = nI (3 * k + j) := by
    rw [show (3 : Int32) = nI 3 from rfl, pk_mul, nI_add]; congr 1; omega
  have hc1 : nI cnt - 1 = nI (cnt - 1) := pk_sub (b := 1) (by omega)
  unfold L_X0_readAct_51
  rw [lo2_succ]
  rw [chk_nI hix (by decide), nI_clamp (by omega), hc, if_neg (fun z => by rw [nI_leI (by omega) (by omega)] at z; omega)]
  refine congrArg (bw _) (funext fun x16 => funext fun S17 => ?_)
  cases x16 with
  | false => rfl
  | true =>
    rw [if_pos rfl, if_pos rfl, hkj, chk_nI (by omega) (by decide), nI_clamp (by omega), lt_eq, chk_nI hix (by decide)]
    simp only [jn1, lt_eq, nI_1]
    by_cases z : j + 1 = cnt
    · rw [if_pos z, if_pos (by rw [hc1, show cnt - 1 = j by omega])]; rfl
    · rw [if_neg z, if_neg (fun e => by rw [hc1] at e; exact z (by have := (nI_eq (by omega) (by omega)).mp e; omega))]; rfl
theorem c_aend {k ix cnt m : Nat} {K : CS → Option (Bool × CS)} {S : CS} (hix : ix < 5) (hc : sT_4.getD ix 0 = nI cnt) (hcnt : cnt ≤ 3) : L_X0_readAct_51 (nI k) (nI ix) K (m + 1) S (nI cnt) = K S := by
  unfold L_X0_readAct_51
  rw [lo2_succ]
  rw [chk_nI hix (by decide), nI_clamp (by omega), hc, if_pos ((nI_leI (by omega) (by omega)).mpr (by omega))]
/-- the numbers of an act: one, two, three -/
def aQ (bb : Nat → Nat) (n : Nat) (S0 : CS) (M0 : MS) (p0 k : Nat) (oc : Option (Bool × CS)) (om : Option (Bool × MS)) : Prop := ∃ o S' M', oc = some (o, S') ∧ om = some (o, M') ∧ (o = true → aG bb n S0 M0 p0 k S' M') ∧ (o = false → aF S0 M0 S' M')
theorem a_last {bb : Nat → Nat} {n : Nat} {S0 : CS} {M0 : MS} {p0 k L ix j m : Nat} {S : CS} {M : MS} {p : Nat} (ho : bbO bb n) (hk : k < 30) (hL : actL L) (hix : ix < 5) (hc : sT_4.getD ix 0 = nI (actC L)) (hj : j + 1 = actC L) (h : aI bb n S0 M0 p0 k L j S M p) : aQ bb n S0 M0 p0 k (L_X0_readAct_51 (nI k) (nI ix) (fun S26 => some (true, S26)) (m + 1 + 1) S (nI j)) (bw (f_X12_readAny M (nI (4 * k + 1 + j))) (fun x9 S10 => if x9 = true then lt (si S10 28 (S10.1 28 + 1)) (fun S13 => bw (f_X12_takes S13 59) (fun x14 S15 => some (x14, S15))) else some (false, S10))) := by
  have h3 := actC_3 (L := L)
  rw [c_astep hk hix hc h3 (by omega), if_pos hj]
  obtain ⟨o, S1, M1, c1, m1, ht, hf⟩ := a_num ho hk (by omega) h
  rw [c1, m1, bw_some, bw_some]
  cases o with
  | false => exact ⟨false, S1, M1, rfl, rfl, fun z => (by cases z), fun _ => hf rfl⟩
  | true =>
    obtain ⟨p1, h1⟩ := ht rfl
    rw [if_pos rfl, if_pos rfl, lt_eq]
    rw [hj] at h1
    obtain ⟨o, S2, M2, c2, m2, ht2, hf2⟩ := a_tail ho hL h1
    have m2 : f_X12_takes (si M1 28 (M1.1 28 + 1)) 59 = some (o, M2) := m2
    rw [c2, m2, bw_some, bw_some]
    cases o with
    | false => exact ⟨false, S2, M2, rfl, rfl, fun z => (by cases z), fun _ => hf2 rfl⟩
    | true =>
      rw [if_pos rfl, hj, c_aend hix hc h3]
      exact ⟨true, S2, M2, rfl, rfl, fun _ => ht2 rfl, fun z => (by cases z)⟩
theorem a_more {bb : Nat → Nat} {n : Nat} {S0 : CS} {M0 : MS} {p0 k L ix j m : Nat} {S : CS} {M : MS} {p : Nat} {KM : MS → Option (Bool × MS)} (ho : bbO bb n) (hk : k < 30) (hix : ix < 5) (hc : sT_4.getD ix 0 = nI (actC L)) (hj : j + 1 < actC L) (h : aI bb n S0 M0 p0 k L j S M p) (hr : ∀ S' M' p', aI bb n S0 M0 p0 k L (j + 1) S' M' p' → aQ bb n S0 M0 p0 k (L_X0_readAct_51 (nI k) (nI ix) (fun S26 => some (true, S26)) m S' (nI (j + 1))) (KM M')) : aQ bb n S0 M0 p0 k (L_X0_readAct_51 (nI k) (nI ix) (fun S26 => some (true, S26)) (m + 1) S (nI j)) (bw (f_X12_readAny M (nI (4 * k + 1 + j))) (fun x9 S10 => if x9 = true then bw (f_X12_takes S10 44) (fun x24 S25 => if x24 = true then KM S25 else some (false, S25)) else some (false, S10))) := by
  have h3 := actC_3 (L := L)
  rw [c_astep hk hix hc h3 (by omega), if_neg (by omega)]
  obtain ⟨o, S1, M1, c1, m1, ht, hf⟩ := a_num ho hk (by omega) h
  rw [c1, m1, bw_some, bw_some]
  cases o with
  | false => exact ⟨false, S1, M1, rfl, rfl, fun z => (by cases z), fun _ => hf rfl⟩
  | true =>
    obtain ⟨p1, h1⟩ := ht rfl
    rw [if_pos rfl, if_pos rfl]
    obtain ⟨o, S2, M2, c2, m2, ht2, hf2⟩ := a_pass ho 44 (by decide) h1
    have m2 : f_X12_takes M1 44 = some (o, M2) := m2
    rw [c2, m2, bw_some, bw_some]
    cases o with
    | false => exact ⟨false, S2, M2, rfl, rfl, fun z => (by cases z), fun _ => hf2 rfl⟩
    | true =>
      obtain ⟨p2, h2⟩ := ht2 rfl
      rw [if_pos rfl, if_pos rfl]
      exact hr S2 M2 p2 h2
