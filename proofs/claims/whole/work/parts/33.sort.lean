/-! rows of marks by day, minute, number: sorted lists, and the reference's insertion -/
theorem vA_irr {V : VW} {a : Nat} : vAhead V a a = false := decide_eq_false (by omega)
theorem vA_tr {V : VW} {a b c : Nat} (h1 : vAhead V a b = true) (h2 : vAhead V b c = true) : vAhead V a c = true := by
  have h1 := of_decide_eq_true h1
  have h2 := of_decide_eq_true h2
  exact decide_eq_true (by omega)
theorem vA_tot {V : VW} {a b : Nat} (h : vAhead V a b = false) (hne : a ≠ b) : vAhead V b a = true := by
  have h := of_decide_eq_false h
  exact decide_eq_true (by omega)
theorem vA_asym {V : VW} {a b : Nat} (h : vAhead V a b = true) : vAhead V b a = false := by
  have h := of_decide_eq_true h
  exact decide_eq_false (by omega)
def srt (V : VW) (l : List Nat) : Prop := l.Pairwise (fun a b => vAhead V a b = true)
/-- sorted rows with the same marks are the same -/
theorem srt_uniq {V : VW} : ∀ {l m : List Nat}, srt V l → srt V m → (∀ k, k ∈ l ↔ k ∈ m) → l = m := by
  intro l
  induction l with
  | nil =>
    intro m _ _ h
    cases m with
    | nil => rfl
    | cons b m => exact absurd ((h b).mpr List.mem_cons_self) List.not_mem_nil
  | cons a l ih =>
    intro m hl hm h
    cases m with
    | nil => exact absurd ((h a).mp List.mem_cons_self) List.not_mem_nil
    | cons b m =>
      obtain ⟨l1, l2⟩ := List.pairwise_cons.mp hl
      obtain ⟨m1, m2⟩ := List.pairwise_cons.mp hm
      have hab : a = b := by
        rcases List.mem_cons.mp ((h a).mp List.mem_cons_self) with e | e
        · exact e
        · rcases List.mem_cons.mp ((h b).mpr List.mem_cons_self) with e2 | e2
          · exact e2.symm
          · have := vA_asym (m1 a e)
            rw [l1 b e2] at this
            cases this
      subst hab
      rw [ih l2 m2]
      intro k
      constructor
      · intro hk
        rcases List.mem_cons.mp ((h k).mp (List.mem_cons_of_mem _ hk)) with e | e
        · subst e
          have := l1 k hk
          rw [vA_irr] at this
          cases this
        · exact e
      · intro hk
        rcases List.mem_cons.mp ((h k).mpr (List.mem_cons_of_mem _ hk)) with e | e
        · subst e
          have := m1 k hk
          rw [vA_irr] at this
          cases this
        · exact e
/-- an array holds a row of marks -/
def hold (f : Nat → Int32) (l : List Nat) : Prop := ∀ i, i < l.length → f i = nI (l.getD i 0)
theorem m_ins {V : VW} (hV : VOK V) {x : Nat} (hx : x < V.n) {l : List Nat} (hl : ∀ y ∈ l, y < V.n) (hlen : l.length < 60) (kk : MS → Int32 → Option MS) : ∀ (i fuel : Nat) (M : MS), i ≤ l.length → i < fuel → tR V (M.2 0) → (∀ j, j < i → M.2 18 j = nI (l.getD j 0)) → (∀ j, i ≤ j → j < l.length → M.2 18 (j + 1) = nI (l.getD j 0)) → (∀ j, i ≤ j → j < l.length → vAhead V x (l.getD j 0) = true) → ∃ (M' : MS) (i' : Nat), L_X12_layOrder_77 (nI x) kk fuel M (nI i) = kk M' (nI i') ∧ i' ≤ l.length ∧ fI [] [18] M M' ∧ (∀ j, j < i' → M'.2 18 j = nI (l.getD j 0)) ∧ (∀ j, i' ≤ j → j < l.length → M'.2 18 (j + 1) = nI (l.getD j 0)) ∧ (∀ j, i' ≤ j → j < l.length → vAhead V x (l.getD j 0) = true) ∧ (i' = 0 ∨ vAhead V x (l.getD (i' - 1) 0) = false) := by
  intro i
  induction i with
  | zero =>
    intro fuel M hi hf hR h1 h2 h3
    cases fuel with
    | zero => omega
    | succ f =>
      refine ⟨M, 0, ?_, Nat.zero_le _, fI_rf, h1, h2, h3, Or.inl rfl⟩
      unfold L_X12_layOrder_77 lo2
      rw [if_pos (show nI 0 ≤ 0 by decide)]
  | succ i ih =>
    intro fuel M hi hf hR h1 h2 h3
    cases fuel with
    | zero => omega
    | succ f =>
      have hy : l.getD i 0 < V.n := by
        have : l.getD i 0 = l[i] := by rw [List.getD_eq_getElem?_getD, List.getElem?_eq_getElem (by omega)]; rfl
        rw [this]; exact hl _ (List.getElem_mem _)
      have hM := m_ahead (M := M) hV hR hx hy
      have eb : L_X12_layOrder_77 (nI x) kk (f + 1) M (nI (i + 1)) = (if vAhead V x (l.getD i 0) = true then L_X12_layOrder_77 (nI x) kk f (sa M 18 (upd (M.2 18) (i + 1) (nI (l.getD i 0)))) (nI i) else kk M (nI (i + 1))) := by
        show (if nI (i + 1) ≤ 0 then _ else _) = _
        rw [if_neg (nI_nle (by omega) (by omega)), nI_pred, chk_nI (by omega) (by decide), nI_clamp (by omega), h1 i (by omega), hM, bp_some]
        rw [chk_nI (by omega) (by decide), chk_nI (by omega) (by decide), nI_clamp (by omega)]
        simp only [lt_eq, pk_m1]
        rfl
      by_cases c : vAhead V x (l.getD i 0) = true
      · rw [if_pos c] at eb
        obtain ⟨M', i', r1, r2, r3, r4⟩ := ih f (sa M 18 (upd (M.2 18) (i + 1) (nI (l.getD i 0)))) (by omega) (by omega) hR (fun j hj => by
            show upd (M.2 18) (i + 1) _ j = _
            rw [pk_un (by omega)]; exact h1 j (by omega)) (fun j hj hj2 => by
            show upd (M.2 18) (i + 1) _ (j + 1) = _
            by_cases e : j = i
            · subst e; rw [pk_us]
            · rw [pk_un (by omega)]; exact h2 j (by omega) hj2) (fun j hj hj2 => by
            by_cases e : j = i
            · subst e; exact c
            · exact h3 j (by omega) hj2)
        exact ⟨M', i', eb.trans r1, r2, fI_tr (fI_sa fI_rf (by decide)) r3 (by decide) (by decide), r4⟩
      · rw [if_neg c] at eb
        refine ⟨M, i + 1, eb, hi, fI_rf, h1, h2, h3, Or.inr ?_⟩
        rw [show i + 1 - 1 = i from rfl]
        cases h : vAhead V x (l.getD i 0) with
        | true => exact absurd h c
        | false => rfl
