/-! written: signs and numbers; feed, end -/
def addS (l : List Int32) (c : Int32) : List Int32 := if l.length < 400 then l ++ [c] else l
def shC (S : CS) (l : List Int32) : Prop := S.1 23 = nI l.length ∧ l.length ≤ 400 ∧ ∀ i, i < l.length → S.2.1 43 i = l.getD i 0
def shM (M : MS) (l : List Int32) : Prop := M.1 32 = nI l.length ∧ l.length ≤ 400 ∧ ∀ i, i < l.length → M.2 31 i = l.getD i 0
theorem getD_push {l : List Int32} {c : Int32} {i : Nat} (hi : i < l.length + 1) : (l ++ [c]).getD i 0 = if i < l.length then l.getD i 0 else c := by
  rw [List.getD_eq_getElem?_getD, List.getElem?_append]
  by_cases h : i < l.length
  · rw [if_pos h, if_pos h, List.getD_eq_getElem?_getD]
  · rw [if_neg h, if_neg h, show i - l.length = 0 by omega]; rfl
theorem c_sign {S : CS} {l : List Int32} (c : Int32) (h : shC S l) : ∃ S', f_X9_addSign S c = some S' ∧ shC S' (addS l c) ∧ gI [23] [43] S S' := by
  obtain ⟨h1, h2, h3⟩ := h
  unfold f_X9_addSign addS
  rw [h1]
  by_cases c' : l.length < 400
  · rw [if_neg (fun h => by rw [show (400 : Int32) = nI 400 from rfl, nI_leI (by omega) (by omega)] at h; omega), chk_nI c' (by decide), nI_clamp (by omega), lt_eq, lt_eq, if_pos c']
    refine ⟨_, rfl, ⟨?_, ?_, ?_⟩, gI_ci (gI_ca gI_rf (by decide)) (by decide)⟩
    · show S.1 23 + 1 = _; rw [h1, nI_1, List.length_append]; rfl
    · rw [List.length_append]; exact c'
    · intro i hi
      rw [List.length_append] at hi
      rw [getD_push hi]
      show upd (S.2.1 43) l.length c i = _
      by_cases z : i < l.length
      · rw [if_pos z, pk_un (by omega)]; exact h3 i z
      · have : i = l.length := by simp at hi; omega
        rw [if_neg z, this, pk_us]
  · rw [if_pos (by rw [show (400 : Int32) = nI 400 from rfl, nI_leI (by omega) (by omega)]; omega), if_neg c']
    exact ⟨S, rfl, ⟨h1, h2, h3⟩, gI_rf⟩
theorem m_sign {M : MS} {l : List Int32} {c : Int32} (hc : vp_nar .byte c.toInt8.toInt32 = c) (h : shM M l) : ∃ M', f_X12_writes M c = some M' ∧ shM M' (addS l c) ∧ fI [32] [31] M M' := by
  obtain ⟨h1, h2, h3⟩ := h
  unfold f_X12_writes addS
  rw [h1, hc]
  by_cases c' : l.length < 400
  · rw [if_neg (fun h => by rw [show (400 : Int32) = nI 400 from rfl, nI_eq (by omega) (by omega)] at h; omega), chk_nI c' (by decide), nI_clamp (by omega), lt_eq, lt_eq, if_pos c']
    refine ⟨_, rfl, ⟨?_, ?_, ?_⟩, fI_si (fI_sa fI_rf (by decide)) (by decide)⟩
    · show M.1 32 + 1 = _; rw [h1, nI_1, List.length_append]; rfl
    · rw [List.length_append]; exact c'
    · intro i hi
      rw [List.length_append] at hi
      rw [getD_push hi]
      show upd (M.2 31) l.length c i = _
      by_cases z : i < l.length
      · rw [if_pos z, pk_un (by omega)]; exact h3 i z
      · have : i = l.length := by simp at hi; omega
        rw [if_neg z, this, pk_us]
  · rw [if_pos (by rw [show (400 : Int32) = nI 400 from rfl, nI_eq (by omega) (by omega)]; omega), if_neg c']
    exact ⟨M, rfl, ⟨h1, h2, h3⟩, fI_rf⟩
theorem nar_d : ∀ d : Fin 10, vp_nar .byte ((nI (48 + d.val)).toInt8.toInt32) = nI (48 + d.val) := by decide
theorem nar_dn {d : Nat} (h : d < 10) : vp_nar .byte ((nI (48 + d)).toInt8.toInt32) = nI (48 + d) := nar_d ⟨d, h⟩
def em (n : Nat) : Nat → List Int32 → List Int32
  | 0, l => l
  | k + 1, l => em n k (if 10 ^ k ≤ n ∨ k = 0 then addS l (nI (48 + n / 10 ^ k % 10)) else l)
theorem p10 : ∀ k : Nat, k ≤ 6 → 1 ≤ 10 ^ k ∧ 10 ^ k ≤ 1000000 := by
  intro k hk
  have hc : k = 0 ∨ k = 1 ∨ k = 2 ∨ k = 3 ∨ k = 4 ∨ k = 5 ∨ k = 6 := by omega
  rcases hc with rfl | rfl | rfl | rfl | rfl | rfl | rfl <;> decide
theorem p10d (k : Nat) : 10 ^ (k + 1) / 10 = 10 ^ k := by rw [Nat.pow_succ, Nat.mul_div_cancel _ (by decide)]
theorem digE {n k : Nat} (hn : n ≤ 1000000) (hk : k ≤ 6) : (48 : Int32) + (nI n / nI (10 ^ k) - nI n / nI (10 ^ k) / 10 * 10) = nI (48 + n / 10 ^ k % 10) := by
  have hp := p10 k hk
  have hq : n / 10 ^ k ≤ n := Nat.div_le_self _ _
  rw [pk_div (by omega) (by omega) (by omega), show (10 : Int32) = nI 10 from rfl, pk_rem (by omega) (by decide) (by decide), show (48 : Int32) = nI 48 from rfl, nI_add]
theorem c_num {S : CS} {l : List Int32} {n : Nat} (hn : n ≤ 1000000) (h : shC S l) : ∃ S', f_X9_addNumber S (nI n) = some S' ∧ shC S' (em n 7 l) ∧ gI [23] [43] S S' := by
  unfold f_X9_addNumber L_X9_addNumber_3
  refine lg2 (Q := fun o => ∃ S', o = some S' ∧ shC S' (em n 7 l) ∧ gI [23] [43] S S') (fun m S1 x => m ≤ 7 ∧ x = (if m = 0 then 0 else nI (10 ^ (m - 1))) ∧ gI [23] [43] S S1 ∧ ∃ l1, shC S1 l1 ∧ em n m l1 = em n 7 l) ?_ FU 7 S 1000000 (FU_gt (by omega)) ⟨by omega, by decide, gI_rf, l, h, rfl⟩
  rintro m S1 x kk ⟨hm, rfl, hg, l1, hs, he⟩ hr
  cases m with
  | zero =>
    rw [if_pos rfl, if_pos (show (0 : Int32) < 1 by decide)]
    exact ⟨S1, rfl, by rw [← he]; exact hs, hg⟩
  | succ k =>
    have hp := p10 k (by omega)
    rw [if_neg (show ¬ k + 1 = 0 by omega), show k + 1 - 1 = k from rfl]
    have hx1 : ¬ nI (10 ^ k) < 1 := fun h => by rw [show (1 : Int32) = nI 1 from rfl, nI_ltI (by omega) (by omega)] at h; omega
    rw [if_neg hx1]
    simp only [jn0, jn1, lt_eq, digE hn (show k ≤ 6 by omega)]
    have hdiv : nI (10 ^ k) / 10 = (if k = 0 then 0 else nI (10 ^ (k - 1))) := by
      cases k with
      | zero => decide
      | succ j => rw [if_neg (by omega), show (10 : Int32) = nI 10 from rfl, pk_div (by omega) (by decide) (by decide), p10d]; rfl
    rw [hdiv]
    have hem : em n (k + 1) l1 = em n k (if 10 ^ k ≤ n ∨ k = 0 then addS l1 (nI (48 + n / 10 ^ k % 10)) else l1) := rfl
    rw [hem] at he
    obtain ⟨S2, s1, s2, s3⟩ := c_sign (nI (48 + n / 10 ^ k % 10)) hs
    have hyes : (10 ^ k ≤ n ∨ k = 0) → ∃ S', nz (nI (10 ^ k)) (bp (f_X9_addSign S1 (nI (48 + n / 10 ^ k % 10))) (fun S11 => kk S11 (if k = 0 then 0 else nI (10 ^ (k - 1))))) = some S' ∧ shC S' (em n 7 l) ∧ gI [23] [43] S S' := by
      intro hz
      unfold nz
      rw [if_neg (nI_ne0 (by omega) (by omega)), s1, bp_some]
      rw [if_pos hz] at he
      exact hr k S2 _ (by omega) ⟨by omega, rfl, gI_tr hg s3 (by decide) (by decide), _, s2, he⟩
    by_cases c1 : 10 ^ k ≤ n
    · rw [if_pos ((nI_leI (by omega) (by omega)).mpr c1)]; exact hyes (Or.inl c1)
    · rw [if_neg (fun h => c1 ((nI_leI (by omega) (by omega)).mp h))]
      by_cases c2 : k = 0
      · rw [if_pos (by rw [c2]; rfl)]; exact hyes (Or.inr c2)
      · have : ¬ nI (10 ^ k) = 1 := fun h => by
          rw [show (1 : Int32) = nI 1 from rfl, nI_eq (by omega) (by omega)] at h
          obtain ⟨j, rfl⟩ : ∃ j, k = j + 1 := ⟨k - 1, by omega⟩
          have := p10 j (by omega)
          rw [Nat.pow_succ] at h; omega
        rw [if_neg this]
        rw [if_neg (fun h => h.elim c1 c2)] at he
        exact hr k S1 _ (by omega) ⟨by omega, rfl, hg, l1, hs, he⟩
theorem em_up {n : Nat} {l : List Int32} : ∀ (m d : Nat), n < 10 ^ d → 1 ≤ d → em n (d + m) l = em n d l := by
  intro m
  induction m with
  | zero => intro d _ _; rfl
  | succ m ih =>
    intro d h1 h2
    have hlt : 10 ^ d ≤ 10 ^ (d + m) := Nat.pow_le_pow_right (by decide) (by omega)
    show em n (d + m) (if 10 ^ (d + m) ≤ n ∨ d + m = 0 then _ else l) = _
    rw [if_neg (fun h => h.elim (fun h => by omega) (fun h => by omega))]
    exact ih d h1 h2
theorem m_num {M : MS} {l : List Int32} {n : Nat} (hn : n ≤ 1000000) (h : shM M l) : ∃ M', f_X12_writeNumber M (nI n) = some M' ∧ shM M' (em n 7 l) ∧ fI [32] [31] M M' := by
  unfold f_X12_writeNumber
  -- the digits from a place on
  have hdig : ∀ k, k ≤ 6 → (k = 0 ∨ 10 ^ k ≤ n) → n < 10 ^ (k + 1) → ∃ M', L_X12_writeNumber_18 (nI n) (fun S18 => some S18) FU M (nI (10 ^ k)) = some M' ∧ shM M' (em n 7 l) ∧ fI [32] [31] M M' := by
    intro k hk hkn hnk
    have h7 : em n 7 l = em n (k + 1) l := by
      have := em_up (n := n) (l := l) (7 - (k + 1)) (k + 1) hnk (by omega)
      rw [show k + 1 + (7 - (k + 1)) = 7 by omega] at this
      exact this
    rw [h7]
    unfold L_X12_writeNumber_18
    refine lg2 (Q := fun o => ∃ M', o = some M' ∧ shM M' (em n (k + 1) l) ∧ fI [32] [31] M M') (fun m M1 x => m ≤ k + 1 ∧ x = (if m = 0 then 0 else nI (10 ^ (m - 1))) ∧ fI [32] [31] M M1 ∧ ∃ l1, shM M1 l1 ∧ em n m l1 = em n (k + 1) l) ?_ FU (k + 1) M (nI (10 ^ k)) (FU_gt (by omega)) ⟨Nat.le_refl _, by rw [if_neg (by omega)]; rfl, fI_rf, l, h, rfl⟩
    rintro m M1 x kk ⟨hm, rfl, hg, l1, hs, he⟩ hr
    cases m with
    | zero =>
      rw [if_pos rfl, if_pos (show (0 : Int32) ≤ 0 by decide)]
      exact ⟨M1, rfl, by rw [← he]; exact hs, hg⟩
    | succ j =>
      have hp := p10 j (by omega)
      rw [if_neg (show ¬ j + 1 = 0 by omega), show j + 1 - 1 = j from rfl, if_neg (nI_nle (by omega) (by omega))]
      unfold nz
      rw [if_neg (nI_ne0 (by omega) (by omega)), digE hn (show j ≤ 6 by omega)]
      have hdiv : nI (10 ^ j) / 10 = (if j = 0 then 0 else nI (10 ^ (j - 1))) := by
        cases j with
        | zero => decide
        | succ j => rw [if_neg (by omega), show (10 : Int32) = nI 10 from rfl, pk_div (by omega) (by decide) (by decide), p10d]; rfl
      obtain ⟨M2, s1, s2, s3⟩ := m_sign (nar_dn (d := n / 10 ^ j % 10) (Nat.mod_lt _ (by decide))) hs
      rw [s1, bp_some, lt_eq, hdiv]
      have hem : em n (j + 1) l1 = em n j (if 10 ^ j ≤ n ∨ j = 0 then addS l1 (nI (48 + n / 10 ^ j % 10)) else l1) := rfl
      rw [hem, if_pos (by
        by_cases z : j = 0
        · exact Or.inr z
        · left
          rcases hkn with hkn | hkn
          · omega
          · exact Nat.le_trans (Nat.pow_le_pow_right (by decide) (by omega)) hkn)] at he
      exact hr j M2 _ (by omega) ⟨by omega, rfl, fI_tr hg s3 (by decide) (by decide), _, s2, he⟩
  unfold L_X12_writeNumber_2
  refine lg1 (Q := fun o => ∃ M', o = some M' ∧ shM M' (em n 7 l) ∧ fI [32] [31] M M') (fun m x => ∃ k, k + m = 6 ∧ x = nI (10 ^ k) ∧ (k = 0 ∨ 10 ^ k ≤ n)) ?_ FU 6 1 (FU_gt (by omega)) ⟨0, rfl, rfl, Or.inl rfl⟩
  rintro m x kk ⟨k, hk, rfl, hkn⟩ hr
  have hp := p10 k (by omega)
  unfold nz
  rw [if_neg (nI_ne0 (by omega) (by omega)), pk_div (by omega) (by omega) (by omega)]
  have hq : n / 10 ^ k ≤ n := Nat.div_le_self _ _
  by_cases c : n / 10 ^ k ≤ 9
  · rw [if_pos (by rw [show (9 : Int32) = nI 9 from rfl, nI_leI (by omega) (by omega)]; exact c)]
    refine hdig k (by omega) hkn ?_
    rw [Nat.pow_succ]
    have := (Nat.div_lt_iff_lt_mul (show 0 < 10 ^ k by omega)).mp (show n / 10 ^ k < 10 by omega)
    rw [Nat.mul_comm] at this
    exact this
  · rw [if_neg (fun h => by rw [show (9 : Int32) = nI 9 from rfl, nI_leI (by omega) (by omega)] at h; exact c h)]
    have hge : 10 ^ (k + 1) ≤ n := by
      rw [Nat.pow_succ]
      have := (Nat.le_div_iff_mul_le (show 0 < 10 ^ k by omega)).mp (show 10 ≤ n / 10 ^ k by omega)
      rw [Nat.mul_comm] at this
      exact this
    have hk6 : k < 6 := by
      by_cases z : k < 6
      · exact z
      · have : k = 6 := by omega
        subst this
        have : (10 : Nat) ^ (6 + 1) = 10000000 := by decide
        omega
    rw [lt_eq, show (10 : Int32) = nI 10 from rfl, pk_mul]
    exact hr (m - 1) _ (by omega) ⟨k + 1, by omega, by rw [Nat.pow_succ], Or.inr hge⟩
def wrS (V : VW) (l : List Nat) (i : Nat) (o : List Int32) : List Int32 :=
  em (V.ath (l.getD i 0)) 7 (addS (em (V.va (l.getD i 0)) 7 (if tie V l i = true then addS (if 0 < i then addS o 32 else o) 61 else (if 0 < i then addS o 32 else o))) 47)
theorem c_write {V : VW} {S : CS} {l : List Nat} (hV : VOK V) (hS : tC V S) (hl : ∀ y, y ∈ l → y < V.n) (h60 : l.length ≤ 60) (hc : linC S l) : ∃ S', L_X11_write_24 (fun S25 => some (S25.1 23, S25)) FU (ci S 23 0) 0 = some (S'.1 23, S') ∧ shC S' (itN (wrS V l) [] l.length) ∧ gI [23] [43] S S' := by
  unfold L_X11_write_24
  refine lq2 (a := ci S 23 0) (Q := fun o => ∃ S', o = some (S'.1 23, S') ∧ shC S' (itN (wrS V l) [] l.length) ∧ gI [23] [43] S S') l.length (fun i S1 => shC S1 (itN (wrS V l) [] i) ∧ gI [23] [43] S S1) ?_ 0 rfl (Nat.zero_le _) (FU_gt (by omega)) ⟨⟨rfl, Nat.zero_le _, fun i h => by cases h⟩, gI_ci gI_rf (by decide)⟩
  rintro i S1 kk hi ⟨hs, hg⟩ hr
  have t23 : ∀ {S1 : CS}, gI [23] [43] S S1 → tC V S1 ∧ linC S1 l := fun hg => ⟨tC_gI hS hg (by decide) (by decide), by rw [linC, hg.1 21 (by decide), hg.2.1 37 (by decide)]; exact hc⟩
  have hc1 := (t23 hg).2
  by_cases c : i < l.length
  · have hk := hl _ (getD_mem c)
    have kb := vk hV hk
    rw [hc1.1, if_neg (fun h => by rw [nI_leI (by omega) (by omega)] at h; omega), chk_nI (by omega) (by decide), nI_clamp (by omega), hc1.2 i c, lt_eq]
    simp only [jn1]
    have hst : itN (wrS V l) [] (i + 1) = wrS V l i (itN (wrS V l) [] i) := rfl
    rw [hst] at hr
    generalize itN (wrS V l) [] i = o at hs hr
    have hr := fun a h1 h2 => hr a c ⟨h1, h2⟩
    -- from the first sign on
    have go2 : ∀ (S2 : CS) (o2 : List Int32), shC S2 o2 → gI [23] [43] S S2 → wrS V l i o = em (V.ath (l.getD i 0)) 7 (addS (em (V.va (l.getD i 0)) 7 o2) 47) → ∃ S', (chk (nI (l.getD i 0)) 60 (bp (f_X9_addNumber S2 (S2.2.1 18 (nI (l.getD i 0)).toNatClampNeg)) (fun S14 => bp (f_X9_addSign S14 47) (fun S15 => chk (nI (l.getD i 0)) 60 (bp (f_X9_addNumber S15 (S15.2.1 14 (nI (l.getD i 0)).toNatClampNeg)) (fun S16 => lt (nI i + 1) fun x17 => kk S16 x17)))))) = some (S'.1 23, S') ∧ shC S' (itN (wrS V l) [] l.length) ∧ gI [23] [43] S S' := by
      intro S2 o2 hs2 hg2 heq
      rw [chk_nI (by omega) (by decide), nI_clamp (by omega), (t23 hg2).1.va _ hk]
      obtain ⟨S3, u1, u2, u3⟩ := c_num (n := V.va (l.getD i 0)) (by omega) hs2
      obtain ⟨S4, w1, w2, w3⟩ := c_sign 47 u2
      have hg4 : gI [23] [43] S S4 := gI_tr (gI_tr hg2 u3 (by decide) (by decide)) w3 (by decide) (by decide)
      obtain ⟨S5, y1, y2, y3⟩ := c_num (n := V.ath (l.getD i 0)) (by omega) w2
      rw [u1, bp_some, w1, bp_some, chk_nI (by omega) (by decide), (t23 hg4).1.ath _ hk, y1, bp_some, lt_eq, nI_1]
      exact hr S5 (by rw [heq]; exact y2) (gI_tr hg4 y3 (by decide) (by decide))
    have go1 : ∀ (S2 : CS) (o1 : List Int32), shC S2 o1 → gI [23] [43] S S2 → o1 = (if 0 < i then addS o 32 else o) → ∃ S', (bp (f_X7_isTie_l1 S2 (nI i)) (fun x12 => (if x12 = true then bp (f_X9_addSign S2 61) (fun S20 => chk (nI (l.getD i 0)) 60 (bp (f_X9_addNumber S20 (S20.2.1 18 (nI (l.getD i 0)).toNatClampNeg)) (fun S14 => bp (f_X9_addSign S14 47) (fun S15 => chk (nI (l.getD i 0)) 60 (bp (f_X9_addNumber S15 (S15.2.1 14 (nI (l.getD i 0)).toNatClampNeg)) (fun S16 => lt (nI i + 1) fun x17 => kk S16 x17)))))) else chk (nI (l.getD i 0)) 60 (bp (f_X9_addNumber S2 (S2.2.1 18 (nI (l.getD i 0)).toNatClampNeg)) (fun S14 => bp (f_X9_addSign S14 47) (fun S15 => chk (nI (l.getD i 0)) 60 (bp (f_X9_addNumber S15 (S15.2.1 14 (nI (l.getD i 0)).toNatClampNeg)) (fun S16 => lt (nI i + 1) fun x17 => kk S16 x17)))))))) = some (S'.1 23, S') ∧ shC S' (itN (wrS V l) [] l.length) ∧ gI [23] [43] S S' := by
      intro S2 o1 hs2 hg2 ho1
      rw [c_tie hV (t23 hg2).1 hl h60 (t23 hg2).2 (by omega), bp_some]
      by_cases ct : tie V l i = true
      · obtain ⟨S3, u1, u2, u3⟩ := c_sign 61 hs2
        rw [if_pos ct, u1, bp_some]
        exact go2 S3 _ u2 (gI_tr hg2 u3 (by decide) (by decide)) (by unfold wrS; rw [if_pos ct, ho1])
      · rw [if_neg ct]
        exact go2 S2 _ hs2 hg2 (by unfold wrS; rw [if_neg ct, ho1])
    by_cases c0 : i = 0
    · rw [if_pos (show nI i ≤ 0 by rw [c0]; decide)]
      exact go1 S1 o hs hg (by rw [if_neg (by omega)])
    · obtain ⟨S2, u1, u2, u3⟩ := c_sign 32 hs
      rw [if_neg (nI_nle (by omega) (by omega)), u1, bp_some]
      exact go1 S2 _ u2 (gI_tr hg u3 (by decide) (by decide)) (by rw [if_pos (by omega)])
  · have : i = l.length := by omega
    subst this
    rw [hc1.1, if_pos ((nI_leI (by omega) (by omega)).mpr (by omega))]
    exact ⟨S1, rfl, hs, hg⟩
theorem m_write {V : VW} {M : MS} {l : List Nat} (hV : VOK V) (hR : tR V (M.2 0)) (hl : ∀ y, y ∈ l → y < V.n) (h60 : l.length ≤ 60) (hc : linM M l) : ∃ M', L_X12_write_28 (fun S27 => some (S27.1 32, S27)) FU (si M 32 0) 0 = some (M'.1 32, M') ∧ shM M' (itN (wrS V l) [] l.length) ∧ fI [32] [31] M M' := by
  unfold L_X12_write_28
  refine lq2 (a := si M 32 0) (Q := fun o => ∃ M', o = some (M'.1 32, M') ∧ shM M' (itN (wrS V l) [] l.length) ∧ fI [32] [31] M M') l.length (fun i M1 => shM M1 (itN (wrS V l) [] i) ∧ fI [32] [31] M M1) ?_ 0 rfl (Nat.zero_le _) (FU_gt (by omega)) ⟨⟨rfl, Nat.zero_le _, fun i h => by cases h⟩, fI_si fI_rf (by decide)⟩
  rintro i M1 kk hi ⟨hs, hg⟩ hr
  have t23 : ∀ {M1 : MS}, fI [32] [31] M M1 → tR V (M1.2 0) ∧ linM M1 l := fun hg => ⟨by rw [hg.2 0 (by decide)]; exact hR, by rw [linM, hg.1 20 (by decide), hg.2 19 (by decide)]; exact hc⟩
  have hc1 := (t23 hg).2
  by_cases c : i < l.length
  · have hk := hl _ (getD_mem c)
    have kb := vk hV hk
    rw [hc1.1, if_neg (fun h => by rw [nI_leI (by omega) (by omega)] at h; omega)]
    simp only [jn1]
    have hst : itN (wrS V l) [] (i + 1) = wrS V l i (itN (wrS V l) [] i) := rfl
    rw [hst] at hr
    generalize itN (wrS V l) [] i = o at hs hr
    have hr := fun a h1 h2 => hr a c ⟨h1, h2⟩
    have go2 : ∀ (M2 : MS) (o2 : List Int32), shM M2 o2 → fI [32] [31] M M2 → wrS V l i o = em (V.ath (l.getD i 0)) 7 (addS (em (V.va (l.getD i 0)) 7 o2) 47) → ∃ M', (bp (f_X12_value M2 (nI i)) (fun x12 => bp (f_X12_writeNumber M2 x12) (fun S13 => bp (f_X12_writes S13 47) (fun S14 => chk (nI i) 60 (bp (f_X12_of S14 (S14.2 19 (nI i).toNatClampNeg) 1) (fun x15 => bp (f_X12_writeNumber S14 x15) (fun S16 => lt (nI i + 1) fun x17 => kk S16 x17))))))) = some (M'.1 32, M') ∧ shM M' (itN (wrS V l) [] l.length) ∧ fI [32] [31] M M' := by
      intro M2 o2 hs2 hg2 heq
      rw [m_value hV (t23 hg2).1 hl h60 (t23 hg2).2 c, bp_some]
      obtain ⟨M3, u1, u2, u3⟩ := m_num (n := V.va (l.getD i 0)) (by omega) hs2
      obtain ⟨M4, w1, w2, w3⟩ := m_sign (c := 47) (by decide) u2
      have hg4 : fI [32] [31] M M4 := fI_tr (fI_tr hg2 u3 (by decide) (by decide)) w3 (by decide) (by decide)
      obtain ⟨M5, y1, y2, y3⟩ := m_num (n := V.ath (l.getD i 0)) (by omega) w2
      rw [u1, bp_some, w1, bp_some, chk_nI (by omega) (by decide), nI_clamp (by omega), (t23 hg4).2.2 i c, m_o1 hV (t23 hg4).1 hk, bp_some, y1, bp_some, lt_eq, nI_1]
      exact hr M5 (by rw [heq]; exact y2) (fI_tr hg4 y3 (by decide) (by decide))
    cases i with
    | zero =>
      rw [if_pos (show nI 0 ≤ 0 by decide), if_pos (show nI 0 ≤ 0 by decide)]
      exact go2 M1 o hs hg (by unfold wrS; rw [if_neg (show ¬ tie V l 0 = true from fun h => by have := (of_decide_eq_true h).1; omega), if_neg (by omega)])
    | succ j =>
      obtain ⟨M2, u1, u2, u3⟩ := m_sign (c := 32) (by decide) hs
      have hg2 : fI [32] [31] M M2 := fI_tr hg u3 (by decide) (by decide)
      have jb := vk hV (hl _ (getD_mem (l := l) (i := j) (by omega)))
      rw [if_neg (nI_nle (by omega) (by omega)), u1, bp_some, if_neg (nI_nle (by omega) (by omega)), m_value hV (t23 hg2).1 hl h60 (t23 hg2).2 c, bp_some, nI_pred, m_value hV (t23 hg2).1 hl h60 (t23 hg2).2 (show j < l.length by omega), bp_some]
      by_cases ct : V.va (l.getD (j + 1) 0) = V.va (l.getD j 0)
      · have ht : tie V l (j + 1) = true := decide_eq_true ⟨by omega, c, ct⟩
        obtain ⟨M3, w1, w2, w3⟩ := m_sign (c := 61) (by decide) u2
        rw [if_pos (by rw [ct]), w1, bp_some]
        have hg3 : fI [32] [31] M M3 := fI_tr hg2 w3 (by decide) (by decide)
        have := go2 M3 _ w2 hg3 (by unfold wrS; rw [if_pos ht, if_pos (by omega)])
        rw [m_value hV (t23 hg3).1 hl h60 (t23 hg3).2 c] at this ⊢
        exact this
      · have ht : ¬ tie V l (j + 1) = true := fun h => ct (of_decide_eq_true h).2.2
        rw [if_neg (fun h => ct ((nI_eq (by omega) (by omega)).mp h))]
        have := go2 M2 _ u2 hg2 (by unfold wrS; rw [if_neg ht, if_pos (by omega)])
        rw [m_value hV (t23 hg2).1 hl h60 (t23 hg2).2 c] at this
        exact this
  · have : i = l.length := by omega
    subst this
    rw [hc1.1, if_pos ((nI_leI (by omega) (by omega)).mpr (by omega))]
    exact ⟨M1, rfl, hs, hg⟩
theorem q_write (T : XS) (M : MS) (a1 a2 a3 : Int32) (h : RLL T M) : ∃ (r : Int32) (T' : XS) (M' : MS), fo_write T a1 a2 a3 = some (r, T') ∧ fm_write M a1 a2 a3 = some (r, M') ∧ RLL T' M' := by
  obtain ⟨W, Ws, hh⟩ := id h
  have hV := hh.w.V
  unfold fo_write fm_write f_X11_write f_X12_write
  rcases ask2 hh.w hh.c hh.m.R hh.r.ad hh.r.lf a1 a2 a3 with ⟨e1, e2⟩ | ⟨l, e', s', d', S', M', rfl, he, rfl, hs, rfl, hd, e1, e2, e3, hl, ho, hc, hm, hq, hq2, hS', hR'⟩
  · rw [e1, e2]; exact ⟨_, _, _, rfl, rfl, h⟩
  · rw [e1, e2]
    simp only [bw_some, bp_some, if_true]
    rw [e3, bp_some, lt_eq, lt_eq]
    obtain ⟨S2, c1, c2, c3⟩ := c_write hV hS'.V ho.m ho.le hc
    obtain ⟨M2, d1, d2, d3⟩ := m_write hV hR' ho.m ho.le hm
    rw [c1, d1, bw_some, d2.1, c2.1]
    refine ⟨_, _, _, rfl, rfl, ?_⟩
    obtain ⟨W1, Ws1, hk⟩ := RL_q h hq hq2
    have hr := hk.r
    refine ⟨W1, Ws1, hk.w, tW_gI hk.c c3 (by decide) (by decide), ?_, ?_, hk.d12, ?_, ?_, hk.dl, hk.dd, ?_⟩
    · rw [d3.2 0 (by decide)]; exact hk.m
    · refine ⟨?_, ?_, ?_, ?_, ?_, ?_, ⟨_, c2.2.1, c2.1, d2.1, fun i hi => by rw [c2.2.2 i hi, d2.2.2 i hi]⟩, ?_⟩
      · rw [c3.1 1 (by decide), d3.1 5 (by decide), c3.2.1 2 (by decide), d3.2 4 (by decide)]; exact hr.tl
      · rw [c3.1 5 (by decide), d3.1 7 (by decide)]; exact hr.ft
      · rw [d3.1 21 (by decide)]; exact hr.ad
      · rw [d3.1 22 (by decide)]; exact hr.lf
      · rw [c3.1 17 (by decide), d3.1 29 (by decide), c3.2.1 33 (by decide), d3.2 27 (by decide)]; exact hr.ac
      · rw [c3.1 18 (by decide), d3.1 30 (by decide)]; exact hr.en
      · rw [c3.1 19 (by decide)]; exact hr.rg
    · show S2.1 20 = _
      rw [c3.1 20 (by decide)]; exact hk.dc
    · rw [d3.1 3 (by decide)]; exact hk.dm
    · rw [d3.2 1 (by decide)]; exact hk.dk
