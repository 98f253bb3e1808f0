/-! ages, scopes, listed -/
theorem m_age {V : VW} {M : MS} (hV : VOK V) (hM : tR V (M.2 0)) {k : Nat} (hk : k < V.n) : f_X12_ageOf M (nI k) = some (vAge V k) := by
  have h60 := hV.n
  have h16 := hV.na
  have ha := hV.ath k hk
  have h3 : f_X12_of M (nI k) 3 = some (nI (V.dy k)) := by rw [← hM.dy k hk]; exact m_of (by omega) (by decide)
  have h1 : f_X12_of M (nI k) 1 = some (nI (V.ath k)) := by rw [← hM.ath k hk]; exact m_of (by omega) (by decide)
  have e1 : (33 : Int32) + 2 * nI (V.ath k) = nI (33 + 2 * V.ath k) := by rw [show (33 : Int32) = nI 33 from rfl, show (2 : Int32) = nI 2 from rfl, pk_mul, nI_add]
  unfold f_X12_ageOf vAge
  simp only [h3, h1, bp_some, e1]
  rw [chk_nI (by omega) (by decide), nI_clamp (by omega), hM.a0 _ ha]
theorem c_age {V : VW} {S : CS} (hV : VOK V) (hS : tC V S) {k : Nat} (hk : k < V.n) : f_X1_ageOf S (nI k) = some (vAge V k) := by
  have h60 := hV.n
  have h16 := hV.na
  have ha := hV.ath k hk
  unfold f_X1_ageOf vAge
  simp only [chk_nI (show k < 60 by omega) (by decide), nI_clamp (show k < 2 ^ 31 by omega), hS.ath k hk, hS.dy k hk, chk_nI (show V.ath k < 16 by omega) (by decide), nI_clamp (show V.ath k < 2 ^ 31 by omega), hS.a0 _ ha]
theorem ite_nlt {x y : Int32} : (if x < y then some false else some true) = some (!decide (x < y)) := by
  by_cases c : x < y
  · rw [if_pos c, decide_eq_true c]; rfl
  · rw [if_neg c, decide_eq_false c]; rfl
theorem ite_eqb {x y : Int32} : (if x = y then some true else some false) = some (x == y) := by
  by_cases c : x = y
  · rw [if_pos c]; simp [c]
  · rw [if_neg c]; simp [c]
theorem m_with {V : VW} {M : MS} (hV : VOK V) (hM : tR V (M.2 0)) {k s : Nat} (hk : k < V.n) (hs : s < 22) : f_X12_isWithin M (nI k) (nI s) = some (vWith V k s) := by
  have h60 := hV.n
  have h16 := hV.na
  have ha := hV.ath k hk
  have h1 : f_X12_of M (nI k) 1 = some (nI (V.ath k)) := by rw [← hM.ath k hk]; exact m_of (by omega) (by decide)
  have h2 : f_X12_of M (nI k) 2 = some (nI (V.pl k)) := by rw [← hM.pl k hk]; exact m_of (by omega) (by decide)
  have e1 : (33 : Int32) + 2 * nI (V.ath k) + 1 = nI (33 + 2 * V.ath k + 1) := by rw [show (33 : Int32) = nI 33 from rfl, show (2 : Int32) = nI 2 from rfl, pk_mul, nI_add, nI_1]
  unfold f_X12_isWithin vWith
  simp only [m_age hV hM hk, h1, h2, bp_some, e1, chk_nI (show 33 + 2 * V.ath k + 1 < 1177 by omega) (by decide), nI_clamp (show 33 + 2 * V.ath k + 1 < 2 ^ 31 by omega), hM.a1 _ ha, show (0 : Int32) = nI 0 from rfl, show (7 : Int32) = nI 7 from rfl, show (15 : Int32) = nI 15 from rfl, show (16 : Int32) = nI 16 from rfl, show (18 : Int32) = nI 18 from rfl, nI_eq (show s < 2 ^ 31 by omega) (show 0 < 2 ^ 31 by decide), nI_eq (show s < 2 ^ 31 by omega) (show 15 < 2 ^ 31 by decide), nI_eq (show s < 2 ^ 31 by omega) (show 16 < 2 ^ 31 by decide), nI_leI (show 7 < 2 ^ 31 by decide) (show s < 2 ^ 31 by omega), nI_leI (show 15 < 2 ^ 31 by decide) (show s < 2 ^ 31 by omega), nI_leI (show 18 < 2 ^ 31 by decide) (show s < 2 ^ 31 by omega), ite_nlt, ite_eqb, ite_nle, jn1]
  by_cases c0 : s = 0
  · simp [c0]
  · by_cases c7 : s < 7
    · simp [c0, c7, show ¬ 7 ≤ s by omega]
    · by_cases c15 : s < 15
      · simp [c0, c7, c15, show 7 ≤ s by omega, show ¬ 15 ≤ s by omega]
      · by_cases c18 : s < 18
        · simp only [c0, c7, c15, c18, show 7 ≤ s by omega, show 15 ≤ s by omega, show ¬ 18 ≤ s by omega, if_true, if_false]
          by_cases d1 : s = 15
          · simp only [d1, if_true]
          · by_cases d2 : s = 16
            · simp only [d2, if_true, if_false, show ¬ (16 = 15) by decide]
            · simp only [d1, d2, if_false]
        · simp [c0, c7, c15, c18, show 7 ≤ s by omega, show 15 ≤ s by omega, show 18 ≤ s by omega]
theorem c_with {V : VW} {S : CS} (hV : VOK V) (hS : tC V S) {k s : Nat} (hk : k < V.n) (hs : s < 22) : f_X1_isOfScope S (nI k) (nI s) = some (vWith V k s) := by
  have h60 := hV.n
  have h16 := hV.na
  have ha := hV.ath k hk
  unfold f_X1_isOfScope vWith
  simp only [c_age hV hS hk, bp_some, chk_nI (show k < 60 by omega) (by decide), nI_clamp (show k < 2 ^ 31 by omega), hS.ath k hk, hS.pl k hk, chk_nI (show V.ath k < 16 by omega) (by decide), nI_clamp (show V.ath k < 2 ^ 31 by omega), hS.a1 _ ha, ite_nlt, ite_eqb, ite_nle, lt_eq]
  by_cases c15 : s < 15
  · simp only [show (0 : Int32) = nI 0 from rfl, show (6 : Int32) = nI 6 from rfl, show (14 : Int32) = nI 14 from rfl, nI_eq (show s < 2 ^ 31 by omega) (show 0 < 2 ^ 31 by decide), nI_ltI (show 6 < 2 ^ 31 by decide) (show s < 2 ^ 31 by omega), nI_ltI (show 14 < 2 ^ 31 by decide) (show s < 2 ^ 31 by omega)]
    by_cases c0 : s = 0
    · simp [c0]
    · by_cases c7 : s < 7
      · simp [c0, c7, show ¬ 6 < s by omega]
      · simp [c0, c7, c15, show 6 < s by omega, show ¬ 14 < s by omega]
  · have hc : s = 15 ∨ s = 16 ∨ s = 17 ∨ s = 18 ∨ s = 19 ∨ s = 20 ∨ s = 21 := by omega
    rcases hc with rfl | rfl | rfl | rfl | rfl | rfl | rfl <;> rfl
def vList (V : VW) (k e s : Nat) (d : Int32) : Bool := decide (V.ev k = e) && vStand V k d && vWith V k s
theorem c_listed {V : VW} {S : CS} (hV : VOK V) (hS : tC V S) {k e s : Nat} {d : Int32} (hk : k < V.n) (he : e < V.ne) (hs : s < 22) : f_X1_isListed S (nI k) (nI e) (nI s) d = some (vList V k e s d) := by
  have h60 := hV.n
  have h6 := hV.ne
  have h1 := hV.ev k hk
  unfold f_X1_isListed vList
  simp only [chk_nI (show k < 60 by omega) (by decide), nI_clamp (show k < 2 ^ 31 by omega), hS.ev k hk, c_stand hV hS hk, c_with hV hS hk hs, bp_some, nI_eq (show V.ev k < 2 ^ 31 by omega) (show e < 2 ^ 31 by omega)]
  by_cases c : V.ev k = e
  · simp only [c, if_true, decide_true]
    cases vStand V k d <;> cases vWith V k s <;> rfl
  · simp [c]
