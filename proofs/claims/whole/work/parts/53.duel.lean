/-! placed, duel -/
def vMeet (V : VW) (j k : Nat) : Prop := V.ev j = V.ev k ∧ V.pl j = V.pl k ∧ V.dy j = V.dy k
def vMet (V : VW) (j k : Nat) : Prop := V.sk j = -1 ∧ vMeet V j k
theorem vMeet_sy {V : VW} {j k : Nat} (h : vMeet V j k) : vMeet V k j := ⟨h.1.symm, h.2.1.symm, h.2.2.symm⟩
theorem vMeet_tr {V : VW} {i j k : Nat} (h : vMeet V i j) (h2 : vMeet V j k) : vMeet V i k := ⟨h.1.trans h2.1, h.2.1.trans h2.2.1, h.2.2.trans h2.2.2⟩
theorem c_met {V : VW} {S : CS} (hV : VOK V) (hS : tC V S) {j k : Nat} (hj : j < V.n) (hk : k < V.n) : ∃ b, f_X1_isMet S (nI j) (nI k) = some b ∧ (b = true ↔ vMet V j k) := by
  have jb := vk hV hj
  have kb := vk hV hk
  unfold f_X1_isMet vMet vMeet
  simp only [chk_nI (show j < 60 by omega) (by decide), chk_nI (show k < 60 by omega) (by decide), nI_clamp (show j < 2 ^ 31 by omega), nI_clamp (show k < 2 ^ 31 by omega), hS.sk j hj, hS.ev j hj, hS.ev k hk, hS.pl j hj, hS.pl k hk, hS.dy j hj, hS.dy k hk, nI_eq (show V.ev j < 2 ^ 31 by omega) (show V.ev k < 2 ^ 31 by omega), nI_eq (show V.pl j < 2 ^ 31 by omega) (show V.pl k < 2 ^ 31 by omega), nI_eq (show V.dy j < 2 ^ 31 by omega) (show V.dy k < 2 ^ 31 by omega)]
  by_cases c0 : V.sk j = -1
  · by_cases c1 : V.ev j = V.ev k
    · by_cases c2 : V.pl j = V.pl k
      · by_cases c3 : V.dy j = V.dy k
        · rw [if_pos c0, if_pos c1, if_pos c2, if_pos c3]; exact ⟨true, rfl, ⟨fun _ => ⟨c0, c1, c2, c3⟩, fun _ => rfl⟩⟩
        · rw [if_pos c0, if_pos c1, if_pos c2, if_neg c3]; exact ⟨false, rfl, ⟨fun h => (by cases h), fun h => absurd h.2.2.2 c3⟩⟩
      · rw [if_pos c0, if_pos c1, if_neg c2]; exact ⟨false, rfl, ⟨fun h => (by cases h), fun h => absurd h.2.2.1 c2⟩⟩
    · rw [if_pos c0, if_neg c1]; exact ⟨false, rfl, ⟨fun h => (by cases h), fun h => absurd h.2.1 c1⟩⟩
  · rw [if_neg c0]; exact ⟨false, rfl, ⟨fun h => (by cases h), fun h => absurd h.1 c0⟩⟩
theorem m_meet {V : VW} {M : MS} (hV : VOK V) (hR : tR V (M.2 0)) {j k : Nat} (hj : j < V.n) (hk : k < V.n) : ∃ b, f_X12_isMeeting M (nI j) (nI k) = some b ∧ (b = true ↔ vMeet V j k) := by
  have jb := vk hV hj
  have kb := vk hV hk
  unfold f_X12_isMeeting vMeet
  simp only [m_o0 hV hR hj, m_o0 hV hR hk, m_o2 hV hR hj, m_o2 hV hR hk, m_o3 hV hR hj, m_o3 hV hR hk, bp_some, nI_eq (show V.ev j < 2 ^ 31 by omega) (show V.ev k < 2 ^ 31 by omega), nI_eq (show V.pl j < 2 ^ 31 by omega) (show V.pl k < 2 ^ 31 by omega), nI_eq (show V.dy j < 2 ^ 31 by omega) (show V.dy k < 2 ^ 31 by omega)]
  by_cases c1 : V.ev j = V.ev k
  · by_cases c2 : V.pl j = V.pl k
    · by_cases c3 : V.dy j = V.dy k
      · rw [if_pos c1, if_pos c2, if_pos c3]; exact ⟨true, rfl, ⟨fun _ => ⟨c1, c2, c3⟩, fun _ => rfl⟩⟩
      · rw [if_pos c1, if_pos c2, if_neg c3]; exact ⟨false, rfl, ⟨fun h => (by cases h), fun h => absurd h.2.2 c3⟩⟩
    · rw [if_pos c1, if_neg c2]; exact ⟨false, rfl, ⟨fun h => (by cases h), fun h => absurd h.2.1 c2⟩⟩
  · rw [if_neg c1]; exact ⟨false, rfl, ⟨fun h => (by cases h), fun h => absurd h.1 c1⟩⟩
/-- those of 0 to n-1 of which something holds -/
noncomputable def selP (P : Nat → Prop) (n : Nat) : List Nat := (List.range n).filter (fun k => @decide (P k) (Classical.propDecidable (P k)))
theorem selP_y {P : Nat → Prop} {n : Nat} (h : P n) : (selP P (n + 1)).length = (selP P n).length + 1 := by
  unfold selP
  rw [List.range_succ, List.filter_append, List.length_append, List.filter_cons_of_pos (by simpa using h)]; rfl
theorem selP_n {P : Nat → Prop} {n : Nat} (h : ¬ P n) : (selP P (n + 1)).length = (selP P n).length := by
  unfold selP
  rw [List.range_succ, List.filter_append, List.length_append, List.filter_cons_of_neg (by simpa using h)]; rfl
theorem selP_m {P : Nat → Prop} {n k : Nat} : k ∈ selP P n ↔ k < n ∧ P k := by
  unfold selP
  rw [List.mem_filter, List.mem_range]
  simp
theorem selP_nd {P : Nat → Prop} {n : Nat} : (selP P n).Nodup := List.Nodup.sublist List.filter_sublist List.nodup_range
theorem selP_le {P : Nat → Prop} {n : Nat} : (selP P n).length ≤ n := by
  unfold selP
  have := List.length_filter_le (fun k => @decide (P k) (Classical.propDecidable (P k))) (List.range n)
  rw [List.length_range] at this
  exact this
theorem selP_inj {P Q : Nat → Prop} {n : Nat} (g : Nat → Nat) (h1 : ∀ k, k < n → P k → g k < n ∧ Q (g k)) (h2 : ∀ j k, j < n → k < n → P j → P k → g j = g k → j = k) : (selP P n).length ≤ (selP Q n).length := by
  have : ((selP P n).map g).Nodup := by
    refine List.pairwise_map.mpr ?_
    refine List.pairwise_iff_getElem.mpr (fun i j hi hj hij => ?_)
    intro e
    have hi' := selP_m.mp (List.getElem_mem hi)
    have hj' := selP_m.mp (List.getElem_mem hj)
    exact List.pairwise_iff_getElem.mp selP_nd i j hi hj hij (h2 _ _ hi'.1 hj'.1 hi'.2 hj'.2 e)
  have := List.Nodup.length_le_of_subset this (l₂ := selP Q n) (fun y hy => by
    obtain ⟨k, hk, rfl⟩ := List.mem_map.mp hy
    have := selP_m.mp hk
    exact selP_m.mpr (h1 k this.1 this.2))
  rw [List.length_map] at this
  exact this
theorem x_placed {V : VW} {S : CS} {M : MS} (hV : VOK V) (hS : tC V S) (hR : tR V (M.2 0)) (a : Int32) : ∃ r, f_X11_placed S a = some r ∧ f_X12_placed M a = some r := by
  have hn := hV.n
  unfold f_X11_placed f_X12_placed
  rw [c_hasMark hV hS, m_isMark hV hR]
  simp only [bp_some]
  cases h1 : inR a V.n with
  | false => exact ⟨_, rfl, rfl⟩
  | true =>
    obtain ⟨k, hk, rfl⟩ := inR_nI h1
    have kb := vk hV hk
    rw [if_pos rfl, if_pos rfl, chk_nI (by omega) (by decide), nI_clamp (by omega), hS.sk k hk, m_o10 hV hR hk, bp_some]
    by_cases c : V.sk k = -1
    · rw [if_pos c, if_pos c]
      refine ⟨nI (selP (fun j => vMet V j k ∧ vBetM V j k = true) V.n).length, ?_, ?_⟩
      · unfold L_X11_placed_33
        refine lq2 (Q := fun o => o = some (nI (selP (fun j => vMet V j k ∧ vBetM V j k = true) V.n).length)) V.n (fun i x => x = nI (selP (fun j => vMet V j k ∧ vBetM V j k = true) i).length) ?_ 0 rfl (Nat.zero_le _) (FU_gt (by omega)) rfl
        rintro i x kk hi rfl hr
        by_cases ci' : i < V.n
        · obtain ⟨b, b1, b2⟩ := c_met hV hS ci' hk
          rw [hS.n, if_neg (fun h => by rw [nI_leI (by omega) (by omega)] at h; omega), b1, bp_some, c_better hV hS ci' hk, bp_some]
          simp only [lt_eq, nI_1]
          have hr := fun a => hr a ci'
          by_cases cb : b = true
          · rw [if_pos cb]
            by_cases cv : vBetM V i k = true
            · rw [if_pos cv]; exact hr _ (by rw [selP_y ⟨b2.mp cb, cv⟩])
            · rw [if_neg cv]; exact hr _ (by rw [selP_n (fun h => cv h.2)])
          · rw [if_neg cb]; exact hr _ (by rw [selP_n (fun h => cb (b2.mpr h.1))])
        · have : i = V.n := by omega
          subst this
          rw [hS.n, if_pos ((nI_leI (by omega) (by omega)).mpr (by omega))]
      · unfold L_X12_placed_28
        refine lq2 (Q := fun o => o = some (nI (selP (fun j => vMet V j k ∧ vBetM V j k = true) V.n).length)) V.n (fun i x => x = nI (selP (fun j => vMet V j k ∧ vBetM V j k = true) i).length) ?_ 0 rfl (Nat.zero_le _) (FU_gt (by omega)) rfl
        rintro i x kk hi rfl hr
        rw [chk_c3, m_A3 hR]
        by_cases ci' : i < V.n
        · obtain ⟨b, b1, b2⟩ := m_meet hV hR ci' hk
          rw [if_neg (fun h => by rw [nI_leI (by omega) (by omega)] at h; omega), b1, bp_some]
          simp only [lt_eq, nI_1, jn0, jn1, m_o10 hV hR ci', m_o0 hV hR hk, m_o5 hV hR ci', m_o5 hV hR hk, bp_some, m_better hV hR kb.2.2.2.2.2.1, Int32.add_zero]
          have hr := fun a => hr a ci'
          by_cases cb : b = true
          · rw [if_pos cb]
            have hmt := b2.mp cb
            have eb : vBetM V i k = vBet V (V.ev k) (nI (V.va i)) (nI (V.va k)) := by unfold vBetM; rw [hmt.1]
            by_cases cs : V.sk i = -1
            · rw [if_pos cs]
              by_cases cv : vBet V (V.ev k) (nI (V.va i)) (nI (V.va k)) = true
              · rw [if_pos cv]; exact hr _ (by rw [selP_y ⟨⟨cs, hmt⟩, by rw [eb]; exact cv⟩])
              · rw [if_neg cv]; exact hr _ (by rw [selP_n (fun h => cv (by rw [← eb]; exact h.2))])
            · rw [if_neg cs]; exact hr _ (by rw [selP_n (fun h => cs h.1.1)])
          · rw [if_neg cb]; exact hr _ (by rw [selP_n (fun h => cb (b2.mpr h.1.2))])
        · have : i = V.n := by omega
          subst this
          rw [if_pos ((nI_leI (by omega) (by omega)).mpr (by omega))]
    · rw [if_neg c, if_neg c]; exact ⟨_, rfl, rfl⟩
theorem q_placed (T : XS) (M : MS) (a1 : Int32) (h : RLL T M) : ∃ (r : Int32) (T' : XS) (M' : MS), fo_placed T a1 = some (r, T') ∧ fm_placed M a1 = some (r, M') ∧ RLL T' M' := by
  obtain ⟨W, Ws, hh⟩ := id h
  obtain ⟨r, e1, e2⟩ := x_placed hh.w.V hh.c.V hh.m.R a1
  exact ⟨r, T, M, by unfold fo_placed; rw [e1]; rfl, by unfold fm_placed; rw [e2]; rfl, h⟩
/-- b is the best of a in the meeting of k, the first of like ones, up to i -/
def bmP (V : VW) (k a i b : Nat) : Prop := b < i ∧ V.ath b = a ∧ vMet V b k ∧ ∀ j, j < i → V.ath j = a → vMet V j k → vBet V (V.ev k) (nI (V.va j)) (nI (V.va b)) = false ∧ (j < b → vBet V (V.ev k) (nI (V.va b)) (nI (V.va j)) = true)
def noP (V : VW) (k a i : Nat) : Prop := ∀ j, j < i → ¬ (V.ath j = a ∧ vMet V j k)
theorem bmP_un {V : VW} {k a i b b' : Nat} (h : bmP V k a i b) (h' : bmP V k a i b') : b = b' := by
  obtain ⟨h1, h2, h3, h4⟩ := h
  obtain ⟨h1', h2', h3', h4'⟩ := h'
  by_cases c : b < b'
  · have := (h4' b h1 h2 h3).2 c
    rw [(h4 b' h1' h2' h3').1] at this; cases this
  · by_cases c2 : b' < b
    · have := (h4 b' h1' h2' h3').2 c2
      rw [(h4' b h1 h2 h3).1] at this; cases this
    · omega
theorem bmP_mt {V : VW} {k k' a i b : Nat} (hm : vMeet V k k') (h : bmP V k a i b) : bmP V k' a i b := by
  obtain ⟨h1, h2, h3, h4⟩ := h
  refine ⟨h1, h2, ⟨h3.1, vMeet_tr h3.2 hm⟩, fun j hj ha hmj => ?_⟩
  rw [← hm.1]
  exact h4 j hj ha ⟨hmj.1, vMeet_tr hmj.2 (vMeet_sy hm)⟩
theorem c_bim {V : VW} {S : CS} (hV : VOK V) (hS : tC V S) {k a : Nat} (hk : k < V.n) (ha : a < 16) : ∃ r, f_X1_bestInMeeting S (nI k) (nI a) = some r ∧ ((r = -1 ∧ noP V k a V.n) ∨ ∃ b, r = nI b ∧ bmP V k a V.n b) := by
  have hn := hV.n
  unfold f_X1_bestInMeeting L_X1_bestInMeeting_5
  refine lq2 (Q := fun o => ∃ r, o = some r ∧ ((r = -1 ∧ noP V k a V.n) ∨ ∃ b, r = nI b ∧ bmP V k a V.n b)) V.n (fun i r => (r = -1 ∧ noP V k a i) ∨ ∃ b, r = nI b ∧ bmP V k a i b) ?_ 0 rfl (Nat.zero_le _) (FU_gt (by omega)) (Or.inl ⟨rfl, fun j hj => by omega⟩)
  rintro i x kk hi hp hr
  by_cases ci' : i < V.n
  · obtain ⟨b, b1, b2⟩ := c_met hV hS ci' hk
    have ib := vk hV ci'
    rw [hS.n, if_neg (fun h => by rw [nI_leI (by omega) (by omega)] at h; omega), chk_nI (by omega) (by decide), nI_clamp (by omega), hS.ath i ci', b1, bp_some]
    simp only [lt_eq, nI_1, jn0]
    have hr := fun a => hr a ci'
    have skip : ¬ (V.ath i = a ∧ vMet V i k) → ∃ r, kk x (nI (i + 1)) = some r ∧ ((r = -1 ∧ noP V k a V.n) ∨ ∃ b, r = nI b ∧ bmP V k a V.n b) := by
      intro hno
      refine hr x ?_
      rcases hp with ⟨e, hp⟩ | ⟨b, e, h1, h2, h3, h4⟩
      · refine Or.inl ⟨e, fun j hj => ?_⟩
        by_cases z : j = i
        · subst z; exact hno
        · exact hp j (by omega)
      · refine Or.inr ⟨b, e, by omega, h2, h3, fun j hj ha' hm => ?_⟩
        by_cases z : j = i
        · subst z; exact absurd ⟨ha', hm⟩ hno
        · exact h4 j (by omega) ha' hm
    by_cases ca : V.ath i = a
    · rw [if_pos (by rw [ca])]
      by_cases cb : b = true
      · rw [if_pos cb]
        have hmt := b2.mp cb
        rcases hp with ⟨rfl, hp⟩ | ⟨b0, rfl, h1, h2, h3, h4⟩
        · rw [if_pos rfl]
          refine hr _ (Or.inr ⟨i, rfl, by omega, ca, hmt, fun j hj ha' hm => ?_⟩)
          by_cases z : j = i
          · subst z; exact ⟨vBet_irr, fun h => by omega⟩
          · exact absurd ⟨ha', hm⟩ (hp j (by omega))
        · rw [if_neg (nI_nm1 (by omega)), c_better hV hS ci' (show b0 < V.n by omega), bp_some]
          have eb : vBetM V i b0 = vBet V (V.ev k) (nI (V.va i)) (nI (V.va b0)) := by unfold vBetM; rw [hmt.2.1]
          rw [eb]
          by_cases cv : vBet V (V.ev k) (nI (V.va i)) (nI (V.va b0)) = true
          · rw [if_pos cv]
            refine hr _ (Or.inr ⟨i, rfl, by omega, ca, hmt, fun j hj ha' hm => ?_⟩)
            by_cases z : j = i
            · subst z; exact ⟨vBet_irr, fun h => by omega⟩
            · have q := (h4 j (by omega) ha' hm).1
              have jb := vk hV (show j < V.n by omega)
              have bb := vk hV (show b0 < V.n by omega)
              rw [vBet_n (by omega) (by omega)] at q cv
              rw [vBet_n (by omega) (by omega), vBet_n (by omega) (by omega)]
              by_cases ce : V.e0 (V.ev k) = 0
              · rw [if_pos ce, decide_eq_false_iff_not] at q
                rw [if_pos ce, decide_eq_true_eq] at cv
                rw [if_pos ce, if_pos ce]
                exact ⟨decide_eq_false (by omega), fun _ => decide_eq_true (by omega)⟩
              · rw [if_neg ce, decide_eq_false_iff_not] at q
                rw [if_neg ce, decide_eq_true_eq] at cv
                rw [if_neg ce, if_neg ce]
                exact ⟨decide_eq_false (by omega), fun _ => decide_eq_true (by omega)⟩
          · rw [if_neg cv]
            refine hr _ (Or.inr ⟨b0, rfl, by omega, h2, h3, fun j hj ha' hm => ?_⟩)
            by_cases z : j = i
            · subst z; exact ⟨Bool.eq_false_iff.mpr cv, fun h => by omega⟩
            · exact h4 j (by omega) ha' hm
      · rw [if_neg cb]; exact skip (fun h => cb (b2.mpr h.2))
    · rw [if_neg (fun h => ca ((nI_eq (by omega) (by omega)).mp h))]; exact skip (fun h => ca h.1)
  · have : i = V.n := by omega
    subst this
    rw [hS.n, if_pos ((nI_leI (by omega) (by omega)).mpr (by omega))]
    exact ⟨x, rfl, hp⟩
theorem m_bestAt {V : VW} {M : MS} (hV : VOK V) (hR : tR V (M.2 0)) {k a : Nat} (hk : k < V.n) (ha : a < 16) : ∃ x, f_X12_bestAt M (nI k) (nI a) = some x ∧ ((x = 0 ∧ noP V k a V.n) ∨ ∃ b, x = nI (V.va b) ∧ bmP V k a V.n b) := by
  have hn := hV.n
  have kb := vk hV hk
  unfold f_X12_bestAt L_X12_bestAt_5
  refine lq2 (Q := fun o => ∃ x, o = some x ∧ ((x = 0 ∧ noP V k a V.n) ∨ ∃ b, x = nI (V.va b) ∧ bmP V k a V.n b)) V.n (fun i r => (r = 0 ∧ noP V k a i) ∨ ∃ b, r = nI (V.va b) ∧ bmP V k a i b) ?_ 0 rfl (Nat.zero_le _) (FU_gt (by omega)) (Or.inl ⟨rfl, fun j hj => by omega⟩)
  rintro i x kk hi hp hr
  rw [chk_c3, m_A3 hR]
  by_cases ci' : i < V.n
  · obtain ⟨b, b1, b2⟩ := m_meet hV hR ci' hk
    have ib := vk hV ci'
    rw [if_neg (fun h => by rw [nI_leI (by omega) (by omega)] at h; omega), b1, bp_some]
    simp only [lt_eq, nI_1, jn0, m_o1 hV hR ci', m_o10 hV hR ci', m_o5 hV hR ci', m_o0 hV hR hk, bp_some, m_better hV hR kb.2.2.2.2.2.1]
    have hr := fun a => hr a ci'
    have skip : ¬ (V.ath i = a ∧ vMet V i k) → ∃ r, kk x (nI (i + 1)) = some r ∧ ((r = 0 ∧ noP V k a V.n) ∨ ∃ b, r = nI (V.va b) ∧ bmP V k a V.n b) := by
      intro hno
      refine hr x ?_
      rcases hp with ⟨e, hp⟩ | ⟨b, e, h1, h2, h3, h4⟩
      · refine Or.inl ⟨e, fun j hj => ?_⟩
        by_cases z : j = i
        · subst z; exact hno
        · exact hp j (by omega)
      · refine Or.inr ⟨b, e, by omega, h2, h3, fun j hj ha' hm => ?_⟩
        by_cases z : j = i
        · subst z; exact absurd ⟨ha', hm⟩ hno
        · exact h4 j (by omega) ha' hm
    by_cases cb : b = true
    · rw [if_pos cb]
      have hmt := b2.mp cb
      by_cases ca : V.ath i = a
      · rw [if_pos (by rw [ca])]
        by_cases cs : V.sk i = -1
        · rw [if_pos cs]
          have hmm : vMet V i k := ⟨cs, hmt⟩
          rcases hp with ⟨rfl, hp⟩ | ⟨b0, rfl, h1, h2, h3, h4⟩
          · rw [if_pos rfl]
            refine hr _ (Or.inr ⟨i, rfl, by omega, ca, hmm, fun j hj ha' hm => ?_⟩)
            by_cases z : j = i
            · subst z; exact ⟨vBet_irr, fun h => by omega⟩
            · exact absurd ⟨ha', hm⟩ (hp j (by omega))
          · have bb := vk hV (show b0 < V.n by omega)
            rw [if_neg (nI_ne0 (by omega) (by omega))]
            by_cases cv : vBet V (V.ev k) (nI (V.va i)) (nI (V.va b0)) = true
            · rw [if_pos cv]
              refine hr _ (Or.inr ⟨i, rfl, by omega, ca, hmm, fun j hj ha' hm => ?_⟩)
              by_cases z : j = i
              · subst z; exact ⟨vBet_irr, fun h => by omega⟩
              · have q := (h4 j (by omega) ha' hm).1
                have jb := vk hV (show j < V.n by omega)
                rw [vBet_n (by omega) (by omega)] at q cv
                rw [vBet_n (by omega) (by omega), vBet_n (by omega) (by omega)]
                by_cases ce : V.e0 (V.ev k) = 0
                · rw [if_pos ce, decide_eq_false_iff_not] at q
                  rw [if_pos ce, decide_eq_true_eq] at cv
                  rw [if_pos ce, if_pos ce]
                  exact ⟨decide_eq_false (by omega), fun _ => decide_eq_true (by omega)⟩
                · rw [if_neg ce, decide_eq_false_iff_not] at q
                  rw [if_neg ce, decide_eq_true_eq] at cv
                  rw [if_neg ce, if_neg ce]
                  exact ⟨decide_eq_false (by omega), fun _ => decide_eq_true (by omega)⟩
            · rw [if_neg cv]
              refine hr _ (Or.inr ⟨b0, rfl, by omega, h2, h3, fun j hj ha' hm => ?_⟩)
              by_cases z : j = i
              · subst z; exact ⟨Bool.eq_false_iff.mpr cv, fun h => by omega⟩
              · exact h4 j (by omega) ha' hm
        · rw [if_neg cs]; exact skip (fun h => cs h.2.1)
      · rw [if_neg (fun h => ca ((nI_eq (by omega) (by omega)).mp h))]; exact skip (fun h => ca h.1)
    · rw [if_neg cb]; exact skip (fun h => cb (b2.mpr h.2.2))
  · have : i = V.n := by omega
    subst this
    rw [if_pos ((nI_leI (by omega) (by omega)).mpr (by omega))]
    exact ⟨x, rfl, hp⟩
def fstM (V : VW) (k : Nat) : Prop := ∀ j, j < k → ¬ vMeet V j k
theorem m_first {V : VW} {M : MS} (hV : VOK V) (hR : tR V (M.2 0)) {k : Nat} (hk : k < V.n) : ∃ b, f_X12_isFirstOfMeeting M (nI k) = some b ∧ (b = true ↔ fstM V k) := by
  have hn := hV.n
  unfold f_X12_isFirstOfMeeting L_X12_isFirstOfMeeting_2
  refine lq1 (Q := fun o => ∃ b, o = some b ∧ (b = true ↔ fstM V k)) k (fun i => ∀ j, j < i → ¬ vMeet V j k) ?_ 0 rfl (Nat.zero_le _) (FU_gt (by omega)) (fun j hj => by omega)
  intro i kk hi hp hr
  by_cases c : i < k
  · obtain ⟨b, b1, b2⟩ := m_meet hV hR (show i < V.n by omega) hk
    rw [if_neg (fun h => by rw [nI_leI (by omega) (by omega)] at h; omega), b1, bp_some]
    by_cases cb : b = true
    · rw [if_pos cb]
      exact ⟨false, rfl, ⟨fun h => (by cases h), fun h => absurd (b2.mp cb) (h i c)⟩⟩
    · rw [if_neg cb, lt_eq, nI_1]
      refine hr c (fun j hj => ?_)
      by_cases z : j = i
      · subst z; exact fun h => cb (b2.mpr h)
      · exact hp j (by omega)
  · have : i = k := by omega
    subst this
    rw [if_pos ((nI_leI (by omega) (by omega)).mpr (by omega))]
    exact ⟨true, rfl, ⟨fun _ => hp, fun _ => rfl⟩⟩
def dA (V : VW) (a c k : Nat) : Prop := bmP V k a V.n k ∧ ∃ r, bmP V k c V.n r ∧ vBet V (V.ev k) (nI (V.va k)) (nI (V.va r)) = true
def dB (V : VW) (a c k : Nat) : Prop := fstM V k ∧ ∃ b r, bmP V k a V.n b ∧ bmP V k c V.n r ∧ vBet V (V.ev k) (nI (V.va b)) (nI (V.va r)) = true
theorem fst_ex {V : VW} (k : Nat) : ∃ f, f ≤ k ∧ vMeet V f k ∧ fstM V f := by
  obtain ⟨f, h1, h2⟩ := pk_least (fun j => vMeet V j k) ⟨k, rfl, rfl, rfl⟩
  refine ⟨f, ?_, h1, fun j hj h => h2 j hj (vMeet_tr h h1)⟩
  by_cases c : f ≤ k
  · exact c
  · exact absurd ⟨rfl, rfl, rfl⟩ (h2 k (by omega))
theorem fst_un {V : VW} {f g : Nat} (h : vMeet V f g) (hf : fstM V f) (hg : fstM V g) : f = g := by
  by_cases c : f < g
  · exact absurd h (hg f c)
  · by_cases c2 : g < f
    · exact absurd (vMeet_sy h) (hf g c2)
    · omega
theorem d_count {V : VW} (a c : Nat) : (selP (dA V a c) V.n).length = (selP (dB V a c) V.n).length := by
  apply Nat.le_antisymm
  · refine selP_inj (fun k => Classical.choose (fst_ex (V := V) k)) ?_ ?_
    · rintro k hk ⟨h1, r, h2, h3⟩
      obtain ⟨f1, f2, f3⟩ := Classical.choose_spec (fst_ex (V := V) k)
      refine ⟨by omega, f3, k, r, bmP_mt (vMeet_sy f2) h1, bmP_mt (vMeet_sy f2) h2, ?_⟩
      rw [f2.1]; exact h3
    · rintro j k hj hk ⟨h1, _⟩ ⟨h1', _⟩ e
      obtain ⟨f1, f2, f3⟩ := Classical.choose_spec (fst_ex (V := V) j)
      obtain ⟨g1, g2, g3⟩ := Classical.choose_spec (fst_ex (V := V) k)
      rw [e] at f2
      exact bmP_un (bmP_mt (vMeet_tr (vMeet_sy f2) g2) h1) h1'
  · refine selP_inj (fun k => Classical.epsilon (bmP V k a V.n)) ?_ ?_
    · rintro k hk ⟨h0, b, r, h1, h2, h3⟩
      have : Classical.epsilon (bmP V k a V.n) = b := bmP_un (Classical.epsilon_spec ⟨b, h1⟩) h1
      show Classical.epsilon (bmP V k a V.n) < V.n ∧ dA V a c (Classical.epsilon (bmP V k a V.n))
      rw [this]
      have hm := vMeet_sy h1.2.2.1.2
      refine ⟨h1.1, bmP_mt hm h1, r, bmP_mt hm h2, ?_⟩
      rw [← hm.1]; exact h3
    · rintro j k hj hk ⟨h0, b, r, h1, h2, h3⟩ ⟨h0', b', r', h1', h2', h3'⟩ e
      have e1 : Classical.epsilon (bmP V j a V.n) = b := bmP_un (Classical.epsilon_spec ⟨b, h1⟩) h1
      have e2 : Classical.epsilon (bmP V k a V.n) = b' := bmP_un (Classical.epsilon_spec ⟨b', h1'⟩) h1'
      have e : Classical.epsilon (bmP V j a V.n) = Classical.epsilon (bmP V k a V.n) := e
      rw [e1, e2] at e
      subst e
      exact fst_un (vMeet_tr (vMeet_sy h1.2.2.1.2) h1'.2.2.1.2) h0 h0'
theorem x_duel {V : VW} {S : CS} {M : MS} (hV : VOK V) (hS : tC V S) (hR : tR V (M.2 0)) (a1 a2 : Int32) : ∃ r, f_X11_duel S a1 a2 = some r ∧ f_X12_duel M a1 a2 = some r := by
  have hn := hV.n
  have h16 := hV.na
  unfold f_X11_duel f_X12_duel
  rw [c_hasA hV hS, c_hasA hV hS, m_isAth hV hR, m_isAth hV hR]
  simp only [bp_some]
  cases h1 : inR a1 V.na with
  | false => exact ⟨_, rfl, rfl⟩
  | true =>
    cases h2 : inR a2 V.na with
    | false => exact ⟨_, rfl, rfl⟩
    | true =>
      obtain ⟨a, ha, rfl⟩ := inR_nI h1
      obtain ⟨c, hc, rfl⟩ := inR_nI h2
      simp only [if_true]
      by_cases e : nI a = nI c
      · rw [if_pos e, if_pos e]; exact ⟨_, rfl, rfl⟩
      · rw [if_neg e, if_neg e]
        refine ⟨nI (selP (dA V a c) V.n).length, ?_, ?_⟩
        · unfold L_X11_duel_41
          refine lq2 (Q := fun o => o = some (nI (selP (dA V a c) V.n).length)) V.n (fun i x => x = nI (selP (dA V a c) i).length) ?_ 0 rfl (Nat.zero_le _) (FU_gt (by omega)) rfl
          rintro i x kk hi rfl hr
          by_cases ci' : i < V.n
          · obtain ⟨r, r1, r2⟩ := c_bim hV hS ci' (show a < 16 by omega)
            obtain ⟨q, q1, q2⟩ := c_bim hV hS ci' (show c < 16 by omega)
            rw [hS.n, if_neg (fun h => by rw [nI_leI (by omega) (by omega)] at h; omega), r1, bp_some, q1, bp_some]
            simp only [lt_eq, nI_1]
            have hr := fun a => hr a ci'
            by_cases cr : r = nI i
            · rw [if_pos cr]
              have hb : bmP V i a V.n i := by
                rcases r2 with ⟨z, _⟩ | ⟨b, z1, z2⟩
                · rw [cr] at z; exact absurd z (nI_nm1 (by omega))
                · rw [cr] at z1
                  have := z2.1
                  rw [show i = b from (nI_eq (by omega) (by omega)).mp z1] at *
                  exact z2
              rcases q2 with ⟨z, z2⟩ | ⟨b, z1, z2⟩
              · rw [if_pos z]
                exact hr _ (by rw [selP_n (fun h => by
                  obtain ⟨_, r', h2, _⟩ := h
                  exact z2 r' h2.1 ⟨h2.2.1, h2.2.2.1⟩)])
              · have hbn := z2.1
                rw [z1, if_neg (nI_nm1 (by omega)), c_better hV hS ci' hbn, bp_some]
                unfold vBetM
                by_cases cv : vBet V (V.ev i) (nI (V.va i)) (nI (V.va b)) = true
                · rw [if_pos cv]; exact hr _ (by rw [selP_y ⟨hb, b, z2, cv⟩])
                · rw [if_neg cv]
                  exact hr _ (by rw [selP_n (fun h => by
                    obtain ⟨_, r', h2, h3⟩ := h
                    rw [bmP_un h2 z2] at h3
                    exact cv h3)])
            · rw [if_neg cr]
              exact hr _ (by rw [selP_n (fun h => by
                rcases r2 with ⟨z, z2⟩ | ⟨b, z1, z2⟩
                · exact z2 i ci' ⟨h.1.2.1, h.1.2.2.1⟩
                · rw [bmP_un z2 h.1] at z1; exact cr z1)])
          · have : i = V.n := by omega
            subst this
            rw [hS.n, if_pos ((nI_leI (by omega) (by omega)).mpr (by omega))]
        · rw [d_count]
          unfold L_X12_duel_29
          refine lq2 (Q := fun o => o = some (nI (selP (dB V a c) V.n).length)) V.n (fun i x => x = nI (selP (dB V a c) i).length) ?_ 0 rfl (Nat.zero_le _) (FU_gt (by omega)) rfl
          rintro i x kk hi rfl hr
          rw [chk_c3, m_A3 hR]
          by_cases ci' : i < V.n
          · obtain ⟨f, f1, f2⟩ := m_first hV hR ci'
            obtain ⟨r, r1, r2⟩ := m_bestAt hV hR ci' (show a < 16 by omega)
            obtain ⟨q, q1, q2⟩ := m_bestAt hV hR ci' (show c < 16 by omega)
            have ib := vk hV ci'
            rw [if_neg (fun h => by rw [nI_leI (by omega) (by omega)] at h; omega), f1, bp_some]
            simp only [lt_eq, nI_1, jn0, jn1, r1, q1, bp_some, m_o0 hV hR ci', m_better hV hR ib.2.2.2.2.2.1, Int32.add_zero]
            have hr := fun a => hr a ci'
            by_cases cf : f = true
            · rw [if_pos cf]
              rcases r2 with ⟨z, z2⟩ | ⟨b, z1, z2⟩
              · rw [if_pos (by rw [z]; decide)]
                exact hr _ (by rw [selP_n (fun h => by
                  obtain ⟨_, b', r', h2, _⟩ := h
                  exact z2 b' h2.1 ⟨h2.2.1, h2.2.2.1⟩)])
              · have bb := vk hV z2.1
                rw [z1, if_neg (nI_nle (by omega) (by omega))]
                rcases q2 with ⟨y, y2⟩ | ⟨b2, y1, y2⟩
                · rw [if_pos (by rw [y]; decide)]
                  exact hr _ (by rw [selP_n (fun h => by
                    obtain ⟨_, b', r', _, h2, _⟩ := h
                    exact y2 r' h2.1 ⟨h2.2.1, h2.2.2.1⟩)])
                · have bb2 := vk hV y2.1
                  rw [y1, if_neg (nI_nle (by omega) (by omega))]
                  by_cases cv : vBet V (V.ev i) (nI (V.va b)) (nI (V.va b2)) = true
                  · rw [if_pos cv]; exact hr _ (by rw [selP_y ⟨f2.mp cf, b, b2, z2, y2, cv⟩])
                  · rw [if_neg cv]
                    exact hr _ (by rw [selP_n (fun h => by
                      obtain ⟨_, b', r', h1, h2, h3⟩ := h
                      rw [bmP_un h1 z2, bmP_un h2 y2] at h3
                      exact cv h3)])
            · rw [if_neg cf]
              exact hr _ (by rw [selP_n (fun h => cf (f2.mpr h.1))])
          · have : i = V.n := by omega
            subst this
            rw [if_pos ((nI_leI (by omega) (by omega)).mpr (by omega))]
theorem q_duel (T : XS) (M : MS) (a1 a2 : Int32) (h : RLL T M) : ∃ (r : Int32) (T' : XS) (M' : MS), fo_duel T a1 a2 = some (r, T') ∧ fm_duel M a1 a2 = some (r, M') ∧ RLL T' M' := by
  obtain ⟨W, Ws, hh⟩ := id h
  obtain ⟨r, e1, e2⟩ := x_duel hh.w.V hh.c.V hh.m.R a1 a2
  exact ⟨r, T, M, by unfold fo_duel; rw [e1]; rfl, by unfold fm_duel; rw [e2]; rfl, h⟩
