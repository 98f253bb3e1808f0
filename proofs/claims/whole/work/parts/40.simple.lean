/-! simple questions -/
theorem inR_ne {x : Int32} {n : Nat} (h : ¬ inR x n = true) (hn : n < 2 ^ 31) : ∀ w, w < n → ¬ x = nI w := fun w hw e => h (by rw [e]; exact inR_of hw hn)
set_option maxRecDepth 100000 in
theorem x_mark {V : VW} {S : CS} {M : MS} (hV : VOK V) (hS : tC V S) (hR : tR V (M.2 0)) (a b : Int32) : ∃ r, f_X11_mark S a b = some r ∧ f_X12_mark M a b = some r := by
  unfold f_X11_mark f_X12_mark
  rw [c_hasMark hV hS, m_isMark hV hR, isIn_n (y := 11) 11 (by decide) rfl]
  simp only [bp_some]
  by_cases ha : inR a V.n = true
  · rw [if_pos ha, if_pos ha]
    obtain ⟨k, hk, rfl⟩ := inR_nI ha
    have kb := vk hV hk
    by_cases hb : inR b 12 = true
    · rw [if_pos hb]
      obtain ⟨w, hw, rfl⟩ := inR_nI hb
      have hc : w = 0 ∨ w = 1 ∨ w = 2 ∨ w = 3 ∨ w = 4 ∨ w = 5 ∨ w = 6 ∨ w = 7 ∨ w = 8 ∨ w = 9 ∨ w = 10 ∨ w = 11 := by omega
      rcases hc with rfl | rfl | rfl | rfl | rfl | rfl | rfl | rfl | rfl | rfl | rfl | rfl
      · refine ⟨nI (V.ev k), ?_, ?_⟩
        · unfold f_X1_factOf
          rw [if_pos (show nI 0 = 0 from rfl), chk_nI kb.1 (by decide), nI_clamp (by omega), hS.ev k hk]; rfl
        · rw [if_neg (show ¬ 9 ≤ nI 0 by decide), show nI 0 = 0 from rfl, m_o0 hV hR hk]; rfl
      · refine ⟨nI (V.ath k), ?_, ?_⟩
        · unfold f_X1_factOf
          rw [if_neg (show ¬ nI 1 = 0 by decide), if_pos (show nI 1 = 1 from rfl), chk_nI kb.1 (by decide), nI_clamp (by omega), hS.ath k hk]; rfl
        · rw [if_neg (show ¬ 9 ≤ nI 1 by decide), show nI 1 = 1 from rfl, m_o1 hV hR hk]; rfl
      · refine ⟨nI (V.pl k), ?_, ?_⟩
        · unfold f_X1_factOf
          rw [if_neg (show ¬ nI 2 = 0 by decide), if_neg (show ¬ nI 2 = 1 by decide), if_pos (show nI 2 = 2 from rfl), chk_nI kb.1 (by decide), nI_clamp (by omega), hS.pl k hk]; rfl
        · rw [if_neg (show ¬ 9 ≤ nI 2 by decide), show nI 2 = 2 from rfl, m_o2 hV hR hk]; rfl
      · refine ⟨nI (V.dy k), ?_, ?_⟩
        · unfold f_X1_factOf
          rw [if_neg (show ¬ nI 3 = 0 by decide), if_neg (show ¬ nI 3 = 1 by decide), if_neg (show ¬ nI 3 = 2 by decide), if_pos (show nI 3 = 3 from rfl), chk_nI kb.1 (by decide), nI_clamp (by omega), hS.dy k hk]; rfl
        · rw [if_neg (show ¬ 9 ≤ nI 3 by decide), show nI 3 = 3 from rfl, m_o3 hV hR hk]; rfl
      · refine ⟨nI (V.mi k), ?_, ?_⟩
        · unfold f_X1_factOf
          rw [if_neg (show ¬ nI 4 = 0 by decide), if_neg (show ¬ nI 4 = 1 by decide), if_neg (show ¬ nI 4 = 2 by decide), if_neg (show ¬ nI 4 = 3 by decide), if_pos (show nI 4 = 4 from rfl), chk_nI kb.1 (by decide), nI_clamp (by omega), hS.mi k hk]; rfl
        · rw [if_neg (show ¬ 9 ≤ nI 4 by decide), show nI 4 = 4 from rfl, m_o4 hV hR hk]; rfl
      · refine ⟨nI (V.va k), ?_, ?_⟩
        · unfold f_X1_factOf
          rw [if_neg (show ¬ nI 5 = 0 by decide), if_neg (show ¬ nI 5 = 1 by decide), if_neg (show ¬ nI 5 = 2 by decide), if_neg (show ¬ nI 5 = 3 by decide), if_neg (show ¬ nI 5 = 4 by decide), if_pos (show nI 5 = 5 from rfl), chk_nI kb.1 (by decide), nI_clamp (by omega), hS.va k hk]; rfl
        · rw [if_neg (show ¬ 9 ≤ nI 5 by decide), show nI 5 = 5 from rfl, m_o5 hV hR hk]; rfl
      · refine ⟨V.wi k, ?_, ?_⟩
        · unfold f_X1_factOf
          rw [if_neg (show ¬ nI 6 = 0 by decide), if_neg (show ¬ nI 6 = 1 by decide), if_neg (show ¬ nI 6 = 2 by decide), if_neg (show ¬ nI 6 = 3 by decide), if_neg (show ¬ nI 6 = 4 by decide), if_neg (show ¬ nI 6 = 5 by decide), if_pos (show nI 6 = 6 from rfl), chk_nI kb.1 (by decide), nI_clamp (by omega), hS.wi k hk]; rfl
        · rw [if_neg (show ¬ 9 ≤ nI 6 by decide), show nI 6 = 6 from rfl, m_o6 hV hR hk]; rfl
      · refine ⟨V.sh k, ?_, ?_⟩
        · unfold f_X1_factOf
          rw [if_neg (show ¬ nI 7 = 0 by decide), if_neg (show ¬ nI 7 = 1 by decide), if_neg (show ¬ nI 7 = 2 by decide), if_neg (show ¬ nI 7 = 3 by decide), if_neg (show ¬ nI 7 = 4 by decide), if_neg (show ¬ nI 7 = 5 by decide), if_neg (show ¬ nI 7 = 6 by decide), if_pos (show nI 7 = 7 from rfl), chk_nI kb.1 (by decide), nI_clamp (by omega), hS.sh k hk]; rfl
        · rw [if_neg (show ¬ 9 ≤ nI 7 by decide), show nI 7 = 7 from rfl, m_o7 hV hR hk]; rfl
      · refine ⟨nI (V.pa k), ?_, ?_⟩
        · unfold f_X1_factOf
          rw [if_neg (show ¬ nI 8 = 0 by decide), if_neg (show ¬ nI 8 = 1 by decide), if_neg (show ¬ nI 8 = 2 by decide), if_neg (show ¬ nI 8 = 3 by decide), if_neg (show ¬ nI 8 = 4 by decide), if_neg (show ¬ nI 8 = 5 by decide), if_neg (show ¬ nI 8 = 6 by decide), if_neg (show ¬ nI 8 = 7 by decide), if_pos (show nI 8 = 8 from rfl), chk_nI kb.1 (by decide), nI_clamp (by omega), hS.pa k hk]; rfl
        · rw [if_neg (show ¬ 9 ≤ nI 8 by decide), show nI 8 = 8 from rfl, m_o8 hV hR hk]; rfl
      · refine ⟨vAge V k, ?_, ?_⟩
        · unfold f_X1_factOf
          rw [if_neg (show ¬ nI 9 = 0 by decide), if_neg (show ¬ nI 9 = 1 by decide), if_neg (show ¬ nI 9 = 2 by decide), if_neg (show ¬ nI 9 = 3 by decide), if_neg (show ¬ nI 9 = 4 by decide), if_neg (show ¬ nI 9 = 5 by decide), if_neg (show ¬ nI 9 = 6 by decide), if_neg (show ¬ nI 9 = 7 by decide), if_neg (show ¬ nI 9 = 8 by decide), if_pos (show nI 9 = 9 from rfl), c_age hV hS hk]; rfl
        · rw [if_pos (show 9 ≤ nI 9 by decide), if_pos (show nI 9 = 9 from rfl), m_age hV hR hk]; rfl
      · refine ⟨V.ra k, ?_, ?_⟩
        · unfold f_X1_factOf
          rw [if_neg (show ¬ nI 10 = 0 by decide), if_neg (show ¬ nI 10 = 1 by decide), if_neg (show ¬ nI 10 = 2 by decide), if_neg (show ¬ nI 10 = 3 by decide), if_neg (show ¬ nI 10 = 4 by decide), if_neg (show ¬ nI 10 = 5 by decide), if_neg (show ¬ nI 10 = 6 by decide), if_neg (show ¬ nI 10 = 7 by decide), if_neg (show ¬ nI 10 = 8 by decide), if_neg (show ¬ nI 10 = 9 by decide), if_pos (show nI 10 = 10 from rfl), chk_nI kb.1 (by decide), nI_clamp (by omega), hS.ra k hk]; rfl
        · rw [if_pos (show 9 ≤ nI 10 by decide), if_neg (show ¬ nI 10 = 9 by decide), show nI 10 - 1 = 9 by decide, m_o9 hV hR hk]; rfl
      · refine ⟨V.sk k, ?_, ?_⟩
        · unfold f_X1_factOf
          rw [if_neg (show ¬ nI 11 = 0 by decide), if_neg (show ¬ nI 11 = 1 by decide), if_neg (show ¬ nI 11 = 2 by decide), if_neg (show ¬ nI 11 = 3 by decide), if_neg (show ¬ nI 11 = 4 by decide), if_neg (show ¬ nI 11 = 5 by decide), if_neg (show ¬ nI 11 = 6 by decide), if_neg (show ¬ nI 11 = 7 by decide), if_neg (show ¬ nI 11 = 8 by decide), if_neg (show ¬ nI 11 = 9 by decide), if_neg (show ¬ nI 11 = 10 by decide), if_pos (show nI 11 = 11 from rfl), chk_nI kb.1 (by decide), nI_clamp (by omega), hS.sk k hk]; rfl
        · rw [if_pos (show 9 ≤ nI 11 by decide), if_neg (show ¬ nI 11 = 9 by decide), show nI 11 - 1 = 10 by decide, m_o10 hV hR hk]; rfl
    · rw [if_neg hb]
      have hn := inR_ne hb (by decide)
      refine ⟨-1000000, ?_, rfl⟩
      unfold f_X1_factOf
      rw [if_neg (show ¬ b = 0 from hn 0 (by decide)), if_neg (show ¬ b = 1 from hn 1 (by decide)), if_neg (show ¬ b = 2 from hn 2 (by decide)), if_neg (show ¬ b = 3 from hn 3 (by decide)), if_neg (show ¬ b = 4 from hn 4 (by decide)), if_neg (show ¬ b = 5 from hn 5 (by decide)), if_neg (show ¬ b = 6 from hn 6 (by decide)), if_neg (show ¬ b = 7 from hn 7 (by decide)), if_neg (show ¬ b = 8 from hn 8 (by decide)), if_neg (show ¬ b = 9 from hn 9 (by decide)), if_neg (show ¬ b = 10 from hn 10 (by decide)), if_neg (show ¬ b = 11 from hn 11 (by decide))]; rfl
  · rw [if_neg ha, if_neg ha]; exact ⟨_, rfl, rfl⟩
theorem ite_lt2 {x : Int32} {ρ : Type} {A B : ρ} (n : Nat) (hn : n < 2 ^ 30) {y : Int32} (hy : y = nI n) : (if x < 0 then A else (if x < y then B else A)) = (if inR x n = true then B else A) := by
  subst hy
  unfold inR
  have e := nI_toInt (n := n) (by omega)
  have z : (0 : Int32).toInt = 0 := rfl
  by_cases c1 : x < 0
  · rw [if_pos c1, if_neg]; rw [Int32.lt_iff_toInt_lt] at c1; simp only [decide_eq_true_eq]; omega
  · rw [if_neg c1]; rw [Int32.lt_iff_toInt_lt] at c1
    by_cases c2 : x < nI n
    · rw [if_pos c2, if_pos]; rw [Int32.lt_iff_toInt_lt, e] at c2; simp only [decide_eq_true_eq]; omega
    · rw [if_neg c2, if_neg]; rw [Int32.lt_iff_toInt_lt, e] at c2; simp only [decide_eq_true_eq]; omega
theorem ite_le2 {x : Int32} {ρ : Type} {A B : ρ} (n : Nat) (hn : n < 2 ^ 30) {y : Int32} (hy : y = nI n) : (if x < 0 then A else (if x ≤ y then B else A)) = (if inR x (n + 1) = true then B else A) := by
  subst hy
  unfold inR
  have e := nI_toInt (n := n) (by omega)
  have z : (0 : Int32).toInt = 0 := rfl
  by_cases c1 : x < 0
  · rw [if_pos c1, if_neg]; rw [Int32.lt_iff_toInt_lt] at c1; simp only [decide_eq_true_eq]; omega
  · rw [if_neg c1]; rw [Int32.lt_iff_toInt_lt] at c1
    by_cases c2 : x ≤ nI n
    · rw [if_pos c2, if_pos]; rw [Int32.le_iff_toInt_le, e] at c2; simp only [decide_eq_true_eq]; omega
    · rw [if_neg c2, if_neg]; rw [Int32.le_iff_toInt_le, e] at c2; simp only [decide_eq_true_eq]; omega
theorem ite_gt2 {x : Int32} {ρ : Type} {A B : ρ} (n : Nat) (hn : n < 2 ^ 30) {y : Int32} (hy : y = nI n) : (if x < 0 then A else (if y < x then A else B)) = (if inR x (n + 1) = true then B else A) := by
  rw [← ite_le2 n hn hy]
  by_cases c : y < x
  · rw [if_pos c, if_neg (show ¬ x ≤ y from fun h => by rw [Int32.le_iff_toInt_le] at h; rw [Int32.lt_iff_toInt_lt] at c; omega)]
  · rw [if_neg c, if_pos (show x ≤ y by rw [Int32.le_iff_toInt_le]; rw [Int32.lt_iff_toInt_lt] at c; omega)]
theorem ite_ge2 {x : Int32} {ρ : Type} {A B : ρ} (n : Nat) (hn : n < 2 ^ 30) {y : Int32} (hy : y = nI n) : (if x < 0 then A else (if y ≤ x then A else B)) = (if inR x n = true then B else A) := by
  rw [← ite_lt2 n hn hy]
  by_cases c : y ≤ x
  · rw [if_pos c, if_neg (show ¬ x < y from fun h => by rw [Int32.lt_iff_toInt_lt] at h; rw [Int32.le_iff_toInt_le] at c; omega)]
  · rw [if_neg c, if_pos (show x < y by rw [Int32.lt_iff_toInt_lt]; rw [Int32.le_iff_toInt_le] at c; omega)]
set_option maxRecDepth 100000 in
theorem x_told {V : VW} {S : CS} {M : MS} (hV : VOK V) (hS : tC V S) (hR : tR V (M.2 0)) (a b c : Int32) : ∃ r, f_X11_told S a b c = some r ∧ f_X12_told M a b c = some r := by
  have h6 := hV.ne
  have h8 := hV.np
  have h16 := hV.na
  unfold f_X11_told f_X12_told
  rw [isIn_n (y := 2) 2 (by decide) rfl, isIn_n (x := c) (y := 1) 1 (by decide) rfl, c_hasE hV hS, c_hasP hV hS, c_hasA hV hS]
  simp only [bp_some, ite_lt2 2 (by decide) (show (2 : Int32) = nI 2 from rfl)]
  by_cases ha : inR a 3 = true
  · rw [if_pos ha]
    obtain ⟨w, hw, rfl⟩ := inR_nI ha
    have hc : w = 0 ∨ w = 1 ∨ w = 2 := by omega
    have e2 : ∀ x i w : Nat, nI x + 2 * nI i + nI w = nI (x + 2 * i + w) := fun x i w => by rw [show (2 : Int32) = nI 2 from rfl, pk_mul, nI_add, nI_add]
    rcases hc with rfl | rfl | rfl
    · simp only [jn1]
      rw [if_pos (show nI 0 = 0 from rfl), chk_nI (show 0 < 1177 by decide) (by decide), nI_clamp (by decide), hR.ne, isIn_gen (n := V.ne) (by omega) rfl, bp_some]
      by_cases hb : inR b V.ne = true
      · obtain ⟨i, hi, rfl⟩ := inR_nI hb
        rw [if_pos hb, if_pos hb]
        by_cases hc : inR c 2 = true
        · obtain ⟨v, hv, rfl⟩ := inR_nI hc
          rw [if_pos hc, if_pos hc, if_pos (show nI 0 = 0 from rfl)]
          have hd : v = 0 ∨ v = 1 := by omega
          rcases hd with rfl | rfl
          · refine ⟨V.e0 i, ?_, ?_⟩
            · rw [if_pos (show nI 0 = 0 from rfl), chk_nI (by omega) (by decide), nI_clamp (by omega), hS.e0 i hi]
            · rw [show (5 : Int32) = nI 5 from rfl, e2, chk_nI (by omega) (by decide), nI_clamp (by omega), ← hR.e0 i hi]; rfl
          · refine ⟨V.e1 i, ?_, ?_⟩
            · rw [if_neg (show ¬ nI 1 = 0 by decide), chk_nI (by omega) (by decide), nI_clamp (by omega), hS.e1 i hi]
            · rw [show (5 : Int32) = nI 5 from rfl, e2, chk_nI (by omega) (by decide), nI_clamp (by omega), ← hR.e1 i hi]
        · rw [if_neg hc, if_neg hc]; exact ⟨_, rfl, rfl⟩
      · rw [if_neg hb, if_neg hb]; exact ⟨_, rfl, rfl⟩
    · simp only [jn1]
      rw [if_neg (show ¬ nI 1 = 0 by decide), if_pos (show nI 1 = 1 from rfl), chk_nI (show 1 < 1177 by decide) (by decide), nI_clamp (by decide), hR.np, isIn_gen (n := V.np) (by omega) rfl, bp_some]
      by_cases hb : inR b V.np = true
      · obtain ⟨i, hi, rfl⟩ := inR_nI hb
        rw [if_pos hb, if_pos hb]
        by_cases hc : inR c 2 = true
        · obtain ⟨v, hv, rfl⟩ := inR_nI hc
          rw [if_pos hc, if_pos hc, if_neg (show ¬ nI 1 = 0 by decide), if_pos (show nI 1 = 1 from rfl)]
          have hd : v = 0 ∨ v = 1 := by omega
          rcases hd with rfl | rfl
          · refine ⟨V.p0 i, ?_, ?_⟩
            · rw [if_pos (show nI 0 = 0 from rfl), chk_nI (by omega) (by decide), nI_clamp (by omega), hS.p0 i hi]
            · rw [show (17 : Int32) = nI 17 from rfl, e2, chk_nI (by omega) (by decide), nI_clamp (by omega), ← hR.p0 i hi]; rfl
          · refine ⟨V.p1 i, ?_, ?_⟩
            · rw [if_neg (show ¬ nI 1 = 0 by decide), chk_nI (by omega) (by decide), nI_clamp (by omega), hS.p1 i hi]
            · rw [show (17 : Int32) = nI 17 from rfl, e2, chk_nI (by omega) (by decide), nI_clamp (by omega), ← hR.p1 i hi]
        · rw [if_neg hc, if_neg hc]; exact ⟨_, rfl, rfl⟩
      · rw [if_neg hb, if_neg hb]; exact ⟨_, rfl, rfl⟩
    · simp only [jn1]
      rw [if_neg (show ¬ nI 2 = 0 by decide), if_neg (show ¬ nI 2 = 1 by decide), if_pos (show nI 2 = 2 from rfl), chk_nI (show 2 < 1177 by decide) (by decide), nI_clamp (by decide), hR.na, isIn_gen (n := V.na) (by omega) rfl, bp_some]
      by_cases hb : inR b V.na = true
      · obtain ⟨i, hi, rfl⟩ := inR_nI hb
        rw [if_pos hb, if_pos hb]
        by_cases hc : inR c 2 = true
        · obtain ⟨v, hv, rfl⟩ := inR_nI hc
          rw [if_pos hc, if_pos hc, if_neg (show ¬ nI 2 = 0 by decide), if_neg (show ¬ nI 2 = 1 by decide)]
          have hd : v = 0 ∨ v = 1 := by omega
          rcases hd with rfl | rfl
          · refine ⟨V.a0 i, ?_, ?_⟩
            · rw [if_pos (show nI 0 = 0 from rfl), chk_nI (by omega) (by decide), nI_clamp (by omega), hS.a0 i hi]
            · rw [show (33 : Int32) = nI 33 from rfl, e2, chk_nI (by omega) (by decide), nI_clamp (by omega), ← hR.a0 i hi]; rfl
          · refine ⟨V.a1 i, ?_, ?_⟩
            · rw [if_neg (show ¬ nI 1 = 0 by decide), chk_nI (by omega) (by decide), nI_clamp (by omega), hS.a1 i hi]
            · rw [show (33 : Int32) = nI 33 from rfl, e2, chk_nI (by omega) (by decide), nI_clamp (by omega), ← hR.a1 i hi]
        · rw [if_neg hc, if_neg hc]; exact ⟨_, rfl, rfl⟩
      · rw [if_neg hb, if_neg hb]; exact ⟨_, rfl, rfl⟩
  · have hn := inR_ne ha (by decide)
    rw [if_neg ha, if_neg (show ¬ a = 0 from hn 0 (by decide)), if_neg (show ¬ a = 1 from hn 1 (by decide)), if_neg (show ¬ a = 2 from hn 2 (by decide))]
    exact ⟨_, rfl, rfl⟩
theorem c_mas {V : VW} {S : CS} (hV : VOK V) (hS : tC V S) (a b : Int32) : f_X11_isMarkAndScope S a b = some (inR a V.n && inR b 22) := by
  unfold f_X11_isMarkAndScope
  rw [c_hasMark hV hS, c_isScope]
  simp only [bp_some]
  cases inR a V.n <;> cases inR b 22 <;> rfl
theorem x_within {V : VW} {S : CS} {M : MS} (hV : VOK V) (hS : tC V S) (hR : tR V (M.2 0)) (a b : Int32) : ∃ r, f_X11_within S a b = some r ∧ f_X12_within M a b = some r := by
  unfold f_X11_within f_X12_within
  rw [c_mas hV hS, m_isMark hV hR, m_isScope]
  simp only [bp_some]
  by_cases ha : inR a V.n = true
  · by_cases hb : inR b 22 = true
    · obtain ⟨k, hk, rfl⟩ := inR_nI ha
      obtain ⟨s, hs, rfl⟩ := inR_nI hb
      rw [ha, hb, c_with hV hS hk hs, m_with hV hR hk hs]
      cases vWith V k s <;> exact ⟨_, rfl, rfl⟩
    · rw [ha, Bool.eq_false_iff.mpr hb]; exact ⟨_, rfl, rfl⟩
  · rw [Bool.eq_false_iff.mpr ha]; exact ⟨_, rfl, rfl⟩
theorem q_mark (T : XS) (M : MS) (a1 a2 : Int32) (h : RLL T M) : ∃ (r : Int32) (T' : XS) (M' : MS), fo_mark T a1 a2 = some (r, T') ∧ fm_mark M a1 a2 = some (r, M') ∧ RLL T' M' := by
  obtain ⟨W, Ws, hh⟩ := id h
  obtain ⟨r, e1, e2⟩ := x_mark hh.w.V hh.c.V hh.m.R a1 a2
  exact ⟨r, T, M, by unfold fo_mark; rw [e1]; rfl, by unfold fm_mark; rw [e2]; rfl, h⟩
theorem q_told (T : XS) (M : MS) (a1 a2 a3 : Int32) (h : RLL T M) : ∃ (r : Int32) (T' : XS) (M' : MS), fo_told T a1 a2 a3 = some (r, T') ∧ fm_told M a1 a2 a3 = some (r, M') ∧ RLL T' M' := by
  obtain ⟨W, Ws, hh⟩ := id h
  obtain ⟨r, e1, e2⟩ := x_told hh.w.V hh.c.V hh.m.R a1 a2 a3
  exact ⟨r, T, M, by unfold fo_told; rw [e1]; rfl, by unfold fm_told; rw [e2]; rfl, h⟩
theorem q_within (T : XS) (M : MS) (a1 a2 : Int32) (h : RLL T M) : ∃ (r : Int32) (T' : XS) (M' : MS), fo_within T a1 a2 = some (r, T') ∧ fm_within M a1 a2 = some (r, M') ∧ RLL T' M' := by
  obtain ⟨W, Ws, hh⟩ := id h
  obtain ⟨r, e1, e2⟩ := x_within hh.w.V hh.c.V hh.m.R a1 a2
  exact ⟨r, T, M, by unfold fo_within; rw [e1]; rfl, by unfold fm_within; rw [e2]; rfl, h⟩
theorem q_fault (T : XS) (M : MS) (h : RLL T M) : ∃ (r : Int32) (T' : XS) (M' : MS), fo_fault T = some (r, T') ∧ fm_fault M = some (r, M') ∧ RLL T' M' := by
  obtain ⟨W, Ws, hh⟩ := id h
  exact ⟨T.1.1 5, T, M, rfl, by show some (M.1 7, M) = _; rw [hh.r.ft], h⟩
theorem q_ended (T : XS) (M : MS) (h : RLL T M) : ∃ (r : Int32) (T' : XS) (M' : MS), fo_ended T = some (r, T') ∧ fm_ended M = some (r, M') ∧ RLL T' M' := by
  obtain ⟨W, Ws, hh⟩ := id h
  exact ⟨T.1.1 18, T, M, rfl, by show some (M.1 30, M) = _; rw [hh.r.en], h⟩
theorem q_row (T : XS) (M : MS) (a1 : Int32) (h : RLL T M) : ∃ (r : Int32) (T' : XS) (M' : MS), fo_row T a1 = some (r, T') ∧ fm_row M a1 = some (r, M') ∧ RLL T' M' := by
  obtain ⟨W, Ws, hh⟩ := id h
  obtain ⟨n, hn, e1, e2, e3⟩ := hh.r.ac
  unfold fo_row fm_row f_X11_row f_X12_row
  rw [e1, ite_ge2 n (by omega) rfl, e2, isIn_gen (n := n) (by omega) rfl, bp_some]
  by_cases c : inR a1 n = true
  · obtain ⟨i, hi, rfl⟩ := inR_nI c
    rw [if_pos c, if_pos c, chk_nI (by omega) (by decide), chk_nI (by omega) (by decide), nI_clamp (by omega), e3 i hi]
    exact ⟨_, T, M, rfl, rfl, h⟩
  · rw [if_neg c, if_neg c]
    exact ⟨_, T, M, rfl, rfl, h⟩
theorem q_octet (T : XS) (M : MS) (a1 : Int32) (h : RLL T M) : ∃ (r : Int32) (T' : XS) (M' : MS), fo_octet T a1 = some (r, T') ∧ fm_octet M a1 = some (r, M') ∧ RLL T' M' := by
  obtain ⟨W, Ws, hh⟩ := id h
  obtain ⟨n, hn, e1, e2, e3⟩ := hh.r.wr
  unfold fo_octet fm_octet f_X11_octet f_X12_octet
  rw [e1, ite_ge2 n (by omega) rfl, e2, isIn_gen (n := n) (by omega) rfl, bp_some]
  by_cases c : inR a1 n = true
  · obtain ⟨i, hi, rfl⟩ := inR_nI c
    rw [if_pos c, if_pos c, chk_nI (by omega) (by decide), chk_nI (by omega) (by decide), nI_clamp (by omega), e3 i hi]
    exact ⟨_, T, M, rfl, rfl, h⟩
  · rw [if_neg c, if_neg c]
    exact ⟨_, T, M, rfl, rfl, h⟩
