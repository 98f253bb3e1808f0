/-! the reference's layOrder, whole -/
theorem lo2_succ {α1 α2 ρ : Type} (body : (α1 → α2 → Option ρ) → α1 → α2 → Option ρ) (n : Nat) : lo2 body (n + 1) = body (lo2 body n) := rfl
set_option maxRecDepth 100000 in
theorem m_layO1 {V : VW} (hV : VOK V) {e s k f : Nat} {d ad lf : Int32} {M : MS} {l : List Nat} (he : e < V.ne) (hs : s < 22) (hkn : k < V.n) (hR : tR V (M.2 0)) (h20 : M.1 20 = nI l.length) (h21 : M.1 21 = ad) (h22 : M.1 22 = lf) : L_X12_layOrder_8 (nI e) (nI s) d (fun S => some S) (f + 1) M (nI k) = (if vSel V ad lf e s d k = true then L_X12_layOrder_77 (nI k) (fun S24 x25 => chk x25 60 (L_X12_layOrder_8 (nI e) (nI s) d (fun S => some S) f (si (sa S24 18 (upd (S24.2 18) x25.toNatClampNeg (nI k))) 20 ((sa S24 18 (upd (S24.2 18) x25.toNatClampNeg (nI k))).1 20 + 1)) (nI (k + 1)))) FU M (nI l.length) else L_X12_layOrder_8 (nI e) (nI s) d (fun S => some S) f M (nI (k + 1))) := by
  have h60 := hV.n
  have h6 := hV.ne
  have hev := hV.ev k hkn
  have h0 : f_X12_of M (nI k) 0 = some (nI (V.ev k)) := by rw [← hR.ev k hkn]; exact m_of (by omega) (by decide)
  have hw := m_with (M := M) hV hR hkn hs
  have hst := m_stand (M := M) (d := d) hV hR hkn
  unfold L_X12_layOrder_8
  rw [lo2_succ]
  rw [chk_of (i := 3) (k := 3) rfl (by decide) (by decide), show M.2 0 (3 : Int32).toNatClampNeg = nI V.n from hR.n, if_neg (fun h => by rw [nI_leI (by omega) (by omega)] at h; omega), h0, bp_some, h22, h21, h20, hw, hst]
  simp only [lt_eq, bp_some, jn0, nI_1, nI_eq (show V.ev k < 2 ^ 31 by omega) (show e < 2 ^ 31 by omega)]
  unfold vSel
  by_cases c1 : V.ev k = e
  · by_cases c2 : nI k = lf
    · simp [c1, c2]
    · by_cases c3 : nI k = ad
      · cases c4 : vWith V k s
        · simp [c1, c2, c3, c4]
        · simp [c1, c2, c3, c4]
      · cases c5 : vStand V k d
        · simp [c1, c2, c3, c5]
        · cases c4 : vWith V k s
          · simp [c1, c2, c3, c4, c5]
          · simp [c1, c2, c3, c4, c5]
  · simp [c1]
set_option maxRecDepth 100000 in
theorem m_layO {V : VW} (hV : VOK V) {e s : Nat} {d ad lf : Int32} (he : e < V.ne) (hs : s < 22) : ∀ (m fuel k : Nat) (M : MS) (l : List Nat), k + m = V.n → m < fuel → tR V (M.2 0) → M.1 20 = nI l.length → M.1 21 = ad → M.1 22 = lf → hold (M.2 18) l → srt V l → l.length ≤ k → (∀ y, y ∈ l ↔ y < k ∧ vSel V ad lf e s d y = true) → ∃ (M' : MS) (l' : List Nat), L_X12_layOrder_8 (nI e) (nI s) d (fun S => some S) fuel M (nI k) = some M' ∧ M'.1 20 = nI l'.length ∧ hold (M'.2 18) l' ∧ srt V l' ∧ (∀ y, y ∈ l' ↔ y < V.n ∧ vSel V ad lf e s d y = true) ∧ fI [20] [18] M M' := by
  have h60 := hV.n
  have h6 := hV.ne
  intro m
  induction m with
  | zero =>
    intro fuel k M l hk hf hR h20 h21 h22 hh hsr hle hm
    cases fuel with
    | zero => omega
    | succ f =>
      have hkn : k = V.n := by omega
      subst hkn
      refine ⟨M, l, ?_, h20, hh, hsr, hm, fI_rf⟩
      unfold L_X12_layOrder_8
      rw [lo2_succ]
      rw [chk_of (i := 3) (k := 3) rfl (by decide) (by decide), show M.2 0 (3 : Int32).toNatClampNeg = nI V.n from hR.n, if_pos ((nI_leI (by omega) (by omega)).mpr (Nat.le_refl _))]
  | succ m ih =>
    intro fuel k M l hk hf hR h20 h21 h22 hh hsr hle hm
    cases fuel with
    | zero => omega
    | succ f =>
      have hkn : k < V.n := by omega
      have hev := hV.ev k hkn
      have h0 : f_X12_of M (nI k) 0 = some (nI (V.ev k)) := by rw [← hR.ev k hkn]; exact m_of (by omega) (by decide)
      have hw := m_with (M := M) hV hR hkn hs
      have hst := m_stand (M := M) (d := d) hV hR hkn
      have hone := m_layO1 hV (f := f) (d := d) he hs hkn hR h20 h21 h22
      by_cases c : vSel V ad lf e s d k = true
      · rw [if_pos c] at hone
        obtain ⟨M1, i, r1, r2, r3, r4, r5, r6, r7⟩ := m_ins hV hkn (l := l) (fun y hy => by have := ((hm y).mp hy).1; omega) (by omega) _ l.length FU M (Nat.le_refl _) (by unfold FU; omega) hR hh (fun j a b => by omega) (fun j a b => by omega)
        rw [r1, chk_nI (by omega) (by decide), nI_clamp (by omega)] at hone
        have hx : k ∉ l := fun h => by have := ((hm k).mp h).1; omega
        have hlen : (l.take i ++ k :: l.drop i).length = l.length + 1 := by
          rw [List.length_append, List.length_cons, List.length_take, List.length_drop]; omega
        obtain ⟨M', l', q1, q2, q3, q4, q5, q6⟩ := ih f (k + 1) (si (sa M1 18 (upd (M1.2 18) i (nI k))) 20 (M1.1 20 + 1)) (l.take i ++ k :: l.drop i) (by omega) (by omega)
          (by show tR V (M1.2 0); rw [r3.2 0 (by decide)]; exact hR)
          (by show M1.1 20 + 1 = _; rw [r3.1 20 (by decide), h20, nI_1, hlen])
          (by show M1.1 21 = _; rw [r3.1 21 (by decide)]; exact h21)
          (by show M1.1 22 = _; rw [r3.1 22 (by decide)]; exact h22)
          (hold_ins r2 r4 r5) (srt_ins hsr hx r2 r6 r7) (by omega)
          (fun y => by
            have hmm : y ∈ l.take i ++ k :: l.drop i ↔ y = k ∨ y ∈ l := by
              rw [List.mem_append, List.mem_cons]
              conv => rhs; rw [← List.take_append_drop i l, List.mem_append]
              constructor
              · rintro (h | h | h)
                · exact Or.inr (Or.inl h)
                · exact Or.inl h
                · exact Or.inr (Or.inr h)
              · rintro (h | h | h)
                · exact Or.inr (Or.inl h)
                · exact Or.inl h
                · exact Or.inr (Or.inr h)
            rw [hmm, hm y]
            constructor
            · rintro (h | h)
              · subst h; exact ⟨by omega, c⟩
              · exact ⟨by omega, h.2⟩
            · rintro ⟨h1, h2⟩
              by_cases hyk : y = k
              · exact Or.inl hyk
              · exact Or.inr ⟨by omega, h2⟩)
        refine ⟨M', l', hone.trans q1, q2, q3, q4, q5, fI_tr ?_ q6 (by decide) (by decide)⟩
        exact fI_si (fI_sa (fI_tr (ks := [20]) (ka := [18]) fI_rf r3 (by decide) (by decide)) (by decide)) (by decide)
      · rw [if_neg c] at hone
        obtain ⟨M', l', q1, q2⟩ := ih f (k + 1) M l (by omega) (by omega) hR h20 h21 h22 hh hsr (by omega) (fun y => by
          rw [hm y]
          constructor
          · rintro ⟨h1, h2⟩; exact ⟨by omega, h2⟩
          · rintro ⟨h1, h2⟩
            by_cases hyk : y = k
            · subst hyk; exact absurd h2 c
            · exact ⟨by omega, h2⟩)
        exact ⟨M', l', hone.trans q1, q2⟩
theorem m_layOrder {V : VW} (hV : VOK V) {M : MS} {e s : Nat} {d : Int32} (he : e < V.ne) (hs : s < 22) (hR : tR V (M.2 0)) : ∃ (M' : MS) (l' : List Nat), f_X12_layOrder M (nI e) (nI s) d = some M' ∧ M'.1 20 = nI l'.length ∧ hold (M'.2 18) l' ∧ srt V l' ∧ (∀ y, y ∈ l' ↔ y < V.n ∧ vSel V (M.1 21) (M.1 22) e s d y = true) ∧ fI [20] [18] M M' := by
  have h60 := hV.n
  obtain ⟨M', l', h1, h2, h3, h4, h5, h6⟩ := m_layO hV (d := d) (ad := M.1 21) (lf := M.1 22) he hs V.n FU 0 (si M 20 0) [] (by omega) (by unfold FU; omega) hR rfl rfl rfl (fun i h => by cases h) List.Pairwise.nil (Nat.le_refl _) (fun y => ⟨fun h => (by cases h), fun h => (by omega)⟩)
  exact ⟨M', l', h1, h2, h3, h4, h5, fI_tr (fI_si fI_rf (by decide)) h6 (by decide) (by decide)⟩
