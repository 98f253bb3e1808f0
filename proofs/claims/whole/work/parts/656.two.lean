/-! an item of two fields -/
theorem c_istep {V : VW} {c j m : Nat} {K : CS → Option (Bool × CS)} {S : CS} (hj : j < fO c) : L_X6_readItem_59 (nI V.td) (nI c) (nI (fO c)) K (m + 1) S (nI j) = cnum V c j (fun S17 => bw (f_X10_pass S17 (nI (if j + 1 = fO c then 59 else 44))) (fun x20 S21 => if x20 = true then bp (f_X1_draft S21 (nI c) (nI j) (S21.1 3)) (fun S22 => L_X6_readItem_59 (nI V.td) (nI c) (nI (fO c)) K m S22 (nI (j + 1))) else some (false, S21))) S := by
  have h9 := fO_9 (c := c)
  have hc1 : nI (fO c) - 1 = nI (fO c - 1) := pk_sub (b := 1) (by omega)
  unfold L_X6_readItem_59 cnum
  rw [lo2_succ]
  rw [if_neg (fun z => by rw [nI_leI (by omega) (by omega)] at z; omega)]
  refine congrArg (bw _) (funext fun x16 => funext fun S17 => ?_)
  cases x16 with
  | false => rfl
  | true =>
    rw [if_pos rfl, if_pos rfl]
    refine congrArg (bp _) (funext fun x18 => ?_)
    cases x18 with
    | false => rfl
    | true =>
      rw [if_pos rfl, if_pos rfl]
      simp only [jn1, lt_eq, nI_1]
      by_cases z : j + 1 = fO c
      · rw [if_pos z, if_pos (by rw [hc1, show fO c - 1 = j by omega])]; rfl
      · rw [if_neg z, if_neg (fun e => by rw [hc1] at e; exact z (by have := (nI_eq (by omega) (by omega)).mp e; omega))]; rfl
theorem c_iend {V : VW} {c m : Nat} {K : CS → Option (Bool × CS)} {S : CS} : L_X6_readItem_59 (nI V.td) (nI c) (nI (fO c)) K (m + 1) S (nI (fO c)) = K S := by
  have h9 := fO_9 (c := c)
  unfold L_X6_readItem_59
  rw [lo2_succ]
  rw [if_pos ((nI_leI (by omega) (by omega)).mpr (by omega))]
/-- an item's fields were read: in both the same -/
def iG (bb : Nat → Nat) (n : Nat) (V : VW) (S0 : CS) (M0 : MS) (p0 c w : Nat) (S : CS) (M : MS) (v : Nat → Int32) : Prop := ∃ p, p0 < p ∧ p ≤ n ∧ rdS bb n p S ∧ rdM bb n p M ∧ keepC V S0 S ∧ (∀ i, i < fO c → S.2.1 (ar c i) (cnt V c) = v i) ∧ fI [6, 7, 8] [0] M0 M ∧ S.1 5 = M.1 7 ∧ (∀ i, i < fO c → bnd (v i) (loI c i) (hiI V c i) = true) ∧ (∀ i, ¬ (rb V c ≤ i ∧ i < rb V c + w) → i ≠ c → M.2 0 i = M0.2 0 i) ∧ M.2 0 c = nI (cnt V c + 1) ∧ (∀ i, i < fO c → M.2 0 (rb V c + i) = v i)
def iQ (bb : Nat → Nat) (n : Nat) (V : VW) (S0 : CS) (M0 : MS) (p0 c w : Nat) (K : CS → Option (Bool × CS)) (ex : MS → Prop) (oc : Option (Bool × CS)) (om : Option (Bool × MS)) : Prop := (∃ S M v, oc = K S ∧ om = some (true, M) ∧ iG bb n V S0 M0 p0 c w S M v ∧ ex M) ∨ (∃ S M, oc = some (false, S) ∧ om = some (false, M) ∧ iF V S0 M0 S M)
theorem i_next {bb : Nat → Nat} {n : Nat} {V : VW} {S0 : CS} {M0 : MS} {p0 c j : Nat} {S S2 : CS} {M M3 : MS} {p p' : Nat} {v : Nat → Int32} (h : iI bb n V S0 M0 p0 c j (j + 1) S M p v) (h0 : M3.2 0 = M.2 0) (g1 : p < p') (g2 : p' ≤ n) (g3 : rdS bb n p' S2) (g4 : rdM bb n p' M3) (g5 : keepC V S0 S2) (g6 : ∀ i, i < j + 1 → S2.2.1 (ar c i) (cnt V c) = v i) (g7 : fI [6, 7, 8] [0] M0 M3) (g8 : S2.1 5 = M3.1 7) : iI bb n V S0 M0 p0 c (j + 1) (j + 1) S2 M3 p' v :=
  ⟨g3, g4, by have := h.lo; omega, g2, g5, g6, g7, by rw [h0]; exact h.ag, by rw [h0]; exact h.vm, g8, h.ok, fun z => absurd z (Nat.lt_irrefl _)⟩
theorem cnt_60 {V : VW} {c : Nat} (hm : cnt V c < mx c) : cnt V c < 60 := by
  have : mx c ≤ 60 := by
    unfold mx
    split
    · omega
    · split
      · omega
      · split <;> omega
  omega
theorem i_fst {bb : Nat → Nat} {n : Nat} {V : VW} {S0 : CS} {M0 : MS} {p0 c w j m : Nat} {S : CS} {M : MS} {p : Nat} {v : Nat → Int32} {K : CS → Option (Bool × CS)} {ex : MS → Prop} {KM : MS → Option (Bool × MS)} (ho : bbO bb n) (hV : VOK V) (hT : ∀ S', keepC V S0 S' → tC V S') (hc : c < 4) (hj : j + 1 < fO c) (hm : cnt V c < mx c) (h : iI bb n V S0 M0 p0 c j j S M p v) (hr : ∀ S' M' p' v', iI bb n V S0 M0 p0 c (j + 1) (j + 1) S' M' p' v' → iQ bb n V S0 M0 p0 c w K ex (L_X6_readItem_59 (nI V.td) (nI c) (nI (fO c)) K m S' (nI (j + 1))) (KM M')) : iQ bb n V S0 M0 p0 c w K ex (L_X6_readItem_59 (nI V.td) (nI c) (nI (fO c)) K (m + 1) S (nI j)) (bw (f_X12_readNumber M (nI (rb V c + j)) (loI c j) (hiI V c j)) (fun x3 S4 => if x3 = true then bw (f_X12_takes S4 44) (fun x5 S6 => if x5 = true then KM S6 else some (false, S6)) else some (false, S4))) := by
  rw [c_istep (by omega), if_neg (by omega)]
  rcases i_num ho hV hT hc (by omega) hm h with ⟨S1, M1, p1, v1, m1, k1, h1⟩ | ⟨S1, M1, m1, k1, h1⟩
  · rw [k1, m1, bw_some, if_pos rfl]
    obtain ⟨o, S2, M3, a1, a2, a3, a4, a5, a6⟩ := i_sep (M2 := M1) ho hT hc (by omega) hm 44 (by decide) h1 fI_rf
    have a2 : f_X12_takes M1 44 = some (o, M3) := a2
    rw [a1, a2, bw_some, bw_some]
    cases o with
    | false => exact Or.inr ⟨S2, M3, rfl, rfl, a5 rfl⟩
    | true =>
      obtain ⟨S3, p', b1, b2, b3, b4, b5, b6, b7, b8, b9⟩ := a6 rfl
      rw [if_pos rfl, if_pos rfl, b1, bp_some]
      exact hr S3 M3 p' v1 (i_next h1 a3 b2 b3 b4 b5 b6 b7 b8 b9)
  · rw [k1, m1, bw_some, if_neg (by decide)]
    exact Or.inr ⟨S1, M1, rfl, rfl, h1⟩
/-- the last field, and what the reference does between it and the item's end -/
theorem i_lst {bb : Nat → Nat} {n : Nat} {V : VW} {S0 : CS} {M0 : MS} {p0 c w j m : Nat} {S : CS} {M : MS} {p : Nat} {v : Nat → Int32} {K : CS → Option (Bool × CS)} {ex : MS → Prop} {Fx : MS → MS} (ho : bbO bb n) (hV : VOK V) (hT : ∀ S', keepC V S0 S' → tC V S') (hc : c < 4) (hj : j + 1 = fO c) (hm : cnt V c < mx c) (h : iI bb n V S0 M0 p0 c j j S M p v) (hF : ∀ M1, fI [] [0] M1 (Fx M1)) (hA : ∀ (M1 M3 : MS) (v1 : Nat → Int32), (∀ i, ¬ (rb V c ≤ i ∧ i < rb V c + fO c) → M1.2 0 i = M0.2 0 i) → (∀ i, i < fO c → M1.2 0 (rb V c + i) = v1 i) → M3.2 0 = (Fx M1).2 0 → (∀ i, ¬ (rb V c ≤ i ∧ i < rb V c + w) → i ≠ c → M3.2 0 i = M0.2 0 i) ∧ M3.2 0 c = nI (cnt V c + 1) ∧ (∀ i, i < fO c → M3.2 0 (rb V c + i) = v1 i) ∧ ex M3) : iQ bb n V S0 M0 p0 c w K ex (L_X6_readItem_59 (nI V.td) (nI c) (nI (fO c)) K (m + 1 + 1) S (nI j)) (bw (f_X12_readNumber M (nI (rb V c + j)) (loI c j) (hiI V c j)) (fun x7 S8 => if x7 = true then bw (f_X12_takes (Fx S8) 59) (fun x10 S11 => some (x10, S11)) else some (false, S8))) := by
  rw [c_istep (by omega), if_pos hj]
  rcases i_num ho hV hT hc (by omega) hm h with ⟨S1, M1, p1, v1, m1, k1, h1⟩ | ⟨S1, M1, m1, k1, h1⟩
  · rw [k1, m1, bw_some, if_pos rfl]
    obtain ⟨o, S2, M3, a1, a2, a3, a4, a5, a6⟩ := i_sep (M2 := Fx M1) ho hT hc (by omega) hm 59 (by decide) h1 (hF M1)
    have a2 : f_X12_takes (Fx M1) 59 = some (o, M3) := a2
    rw [a1, a2, bw_some, bw_some]
    cases o with
    | false => exact Or.inr ⟨S2, M3, rfl, rfl, a5 rfl⟩
    | true =>
      obtain ⟨S3, p', b1, b2, b3, b4, b5, b6, b7, b8, b9⟩ := a6 rfl
      rw [if_pos rfl, b1, bp_some, hj, c_iend]
      rw [hj] at b7 h1
      obtain ⟨z1, z2, z3, z4⟩ := hA M1 M3 v1 h1.ag h1.vm a3
      exact Or.inl ⟨S3, M3, v1, rfl, rfl, ⟨p', by have := h1.lo; omega, b3, b4, b5, b6, b7, b8, b9, h1.ok, z1, z2, z3⟩, z4⟩
  · rw [k1, m1, bw_some, if_neg (by decide)]
    exact Or.inr ⟨S1, M1, rfl, rfl, h1⟩
