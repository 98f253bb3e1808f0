/-! points, champion, table -/
def clp (x : Int32) : Int32 := if 0 ≤ x then (if x ≤ 1000000 then x else 1000000) else 0
theorem clp_c (x : Int32) : (if 0 < (if 1000000 < x then 1000000 else x) then (if 1000000 < x then 1000000 else x) else 0) = clp x := by
  unfold clp
  by_cases c : 1000000 < x
  · have c2 : ¬ x ≤ 1000000 := fun h => by rw [Int32.le_iff_toInt_le] at h; rw [Int32.lt_iff_toInt_lt] at c; omega
    have c3 : 0 ≤ x := by
      rw [Int32.lt_iff_toInt_lt, show (1000000 : Int32).toInt = 1000000 from rfl] at c
      rw [Int32.le_iff_toInt_le, show (0 : Int32).toInt = 0 from rfl]; omega
    rw [if_pos c, if_pos (show (0 : Int32) < 1000000 by decide), if_pos c3, if_neg c2]
  · have c2 : x ≤ 1000000 := by rw [Int32.le_iff_toInt_le]; rw [Int32.lt_iff_toInt_lt] at c; omega
    rw [if_neg c, if_pos c2]
    by_cases d : 0 < x
    · rw [if_pos d, if_pos (by rw [Int32.le_iff_toInt_le]; rw [Int32.lt_iff_toInt_lt] at d; omega)]
    · rw [if_neg d]
      by_cases e : 0 ≤ x
      · rw [if_pos e]
        exact Int32.toInt_inj.mp (by rw [Int32.le_iff_toInt_le] at e; rw [Int32.lt_iff_toInt_lt] at d; omega)
      · rw [if_neg e]
def ptV (W : WW) (k : Nat) : Int32 := if W.se = [] then (if W.V.e0 (W.V.ev k) = 1 then nI (W.V.va k) else 1000000 - nI (W.V.va k)) else clp (fval W.V k (nI (W.V.pa k)) W.sc 0 W.sc.length)
theorem tk_all {cs : List Int32} : tk cs 0 cs.length = cs := by unfold tk; rw [List.drop_zero, Nat.sub_zero, List.take_length]
theorem c_pt {W : WW} {S : CS} (hw : WOK W) (hS : tW W S) {k : Nat} (hk : k < W.V.n) : ∃ S', f_X11_pointsOf S (nI k) = some (ptV W k, S') ∧ gI [25] [52] S S' := by
  have hV := hw.V
  have kb := vk hV hk
  have h130 := hw.s.c
  unfold f_X11_pointsOf ptV f_X4_parts_sf
  simp only [bp_some, hS.sl, chk_nI (show k < 60 by omega) (by decide), nI_clamp (show k < 2 ^ 31 by omega), hS.V.va k hk, hS.V.ev k hk, hS.V.pa k hk, c_mb hV hS.V kb.2.2.2.2.2.1, lt_eq]
  rcases hw.s.e with ⟨e1, e2, e3⟩ | ⟨e1, e2, fb, e3⟩
  · rw [e1, if_pos (show nI ([] : List Nat).length = 0 from rfl), if_pos rfl]
    by_cases c : W.V.e0 (W.V.ev k) = 1
    · rw [if_pos (decide_eq_true c), if_pos c]; exact ⟨S, rfl, gI_rf⟩
    · rw [if_neg (fun h => c (of_decide_eq_true h)), if_neg c]; exact ⟨S, rfl, gI_rf⟩
  · have hl1 : W.se.length = 1 := by rw [e1]; rfl
    obtain ⟨S', g1, g2⟩ := c_val_sf (p := nI (W.V.pa k)) (pt := 0) (fb := fb) hV hS.V hk hS.sl hS.se hS.scl hS.sc (by omega) (by omega) (by omega) (by rw [e1]; exact ⟨Nat.zero_le _, Nat.le_refl _⟩) (by rw [e1]; show tyL (tk W.sc 0 W.sc.length) [] = _; rw [tk_all]; exact e3)
    have e5 : W.se.getD 0 0 = W.sc.length := by rw [e1]; rfl
    have e6 : bgn W.se 0 = 0 := rfl
    rw [e5, e6] at g1
    rw [hl1, if_neg (show ¬ nI 1 = 0 by decide), if_neg (by rw [e1]; simp), show (0 : Int32) = nI 0 from rfl, g1, bw_some, ← show (0 : Int32) = nI 0 from rfl, clp_c]
    exact ⟨S', rfl, g2⟩
theorem m_pt {W : WW} {M : MS} (hw : WOK W) (hA : tA W (M.2 0)) {k : Nat} (hk : k < W.V.n) : ∃ M', f_X12_pointsOf M (nI k) = some (ptV W k, M') ∧ fI [] [17] M M' := by
  have hV := hw.V
  have hR := hA.R
  have h130 := hw.s.c
  have h60 := hw.s.s60
  have e45 : M.2 0 (1045 : Int32).toNatClampNeg = nI W.st := hA.st
  have e46 : M.2 0 (1046 : Int32).toNatClampNeg = nI W.sc.length := hA.sd
  unfold f_X12_pointsOf ptV
  rw [chk_of (N := 1177) (i := 1045) (k := 1045) rfl (by decide) (by decide), chk_of (N := 1177) (i := 1046) (k := 1046) rfl (by decide) (by decide), e45, e46, m_ev0 hV hR hk, m_o5 hV hR hk]
  simp only [bp_some]
  rcases hw.s.e with ⟨e1, e2, e3⟩ | ⟨e1, e2, fb, e3⟩
  · rw [e2, if_pos (show nI 0 = 0 from rfl), e1, if_pos rfl]
    by_cases c : W.V.e0 (W.V.ev k) = 1
    · rw [if_pos c, if_pos c]; exact ⟨M, rfl, fI_rf⟩
    · rw [if_neg c, if_neg c]; exact ⟨M, rfl, fI_rf⟩
  · obtain ⟨M', g1, g2⟩ := m_worked (base := 1047) (b := 0) (e := W.sc.length) (k := k) (fb := fb) hV hR hk (Nat.zero_le _) (Nat.le_refl _) (by omega) hA.sc (by rw [tk_all]; exact e3)
    rw [if_neg (nI_ne0 e2 (by omega)), if_neg (by rw [e1]; simp), show (1047 : Int32) = nI 1047 from rfl, nI_add, show nI 1047 = nI (1047 + 0) from rfl, g1, bw_some]
    refine ⟨M', ?_, g2⟩
    unfold clp
    split
    · split <;> rfl
    · rfl
theorem q_points (T : XS) (M : MS) (a1 : Int32) (h : RLL T M) : ∃ (r : Int32) (T' : XS) (M' : MS), fo_points T a1 = some (r, T') ∧ fm_points M a1 = some (r, M') ∧ RLL T' M' := by
  obtain ⟨W, Ws, hh⟩ := id h
  have hV := hh.w.V
  unfold fo_points fm_points f_X11_points f_X12_points
  rw [c_hasMark hV hh.c.V, m_isMark hV hh.m.R, bp_some, bp_some]
  cases h1 : inR a1 W.V.n with
  | false => exact ⟨_, _, _, rfl, rfl, h⟩
  | true =>
    obtain ⟨k, hk, rfl⟩ := inR_nI h1
    obtain ⟨S', c1, c2⟩ := c_pt hh.w hh.c hk
    obtain ⟨M', d1, d2⟩ := m_pt hh.w hh.m hk
    rw [if_pos rfl, if_pos rfl, c1, d1]
    exact ⟨_, _, _, rfl, rfl, RL_q h (cqf_of c2 (by decide) (by decide)) (mqf_of d2 (by decide) (by decide))⟩
/-- the best points of an event of those that are asked for -/
def spB (V : VW) (a r d : Int32) (k : Nat) : Prop := (a = -1 ∨ nI (V.ath k) = a) ∧ (r = -1 ∨ V.a1 (V.ath k) = r) ∧ vStand V k d = true
noncomputable def bpF (W : WW) (a r d : Int32) (e k : Nat) (x : Int32) : Int32 := @ite _ (spB W.V a r d k ∧ W.V.ev k = e) (Classical.propDecidable _) (if x < ptV W k then ptV W k else x) x
theorem bpF_y {W : WW} {a r d : Int32} {e k : Nat} {x : Int32} (h : spB W.V a r d k ∧ W.V.ev k = e) : bpF W a r d e k x = if x < ptV W k then ptV W k else x := if_pos h
theorem bpF_n {W : WW} {a r d : Int32} {e k : Nat} {x : Int32} (h : ¬ (spB W.V a r d k ∧ W.V.ev k = e)) : bpF W a r d e k x = x := if_neg h
noncomputable def bpV (W : WW) (a r d : Int32) (e : Nat) : Int32 := itN (bpF W a r d e) 0 W.V.n
noncomputable def smF (W : WW) (a r d : Int32) (e : Nat) (x : Int32) : Int32 := x + bpV W a r d e
noncomputable def smV (W : WW) (a r d : Int32) : Int32 := itN (smF W a r d) 0 W.V.ne
theorem bpV_0 {W : WW} (hw : WOK W) {a r d : Int32} {e : Nat} (he : W.V.ne ≤ e) : bpV W a r d e = 0 := by
  have : ∀ n, n ≤ W.V.n → itN (bpF W a r d e) 0 n = 0 := by
    intro n
    induction n with
    | zero => intro _; rfl
    | succ n ih =>
      intro hn
      show bpF W a r d e n (itN (bpF W a r d e) 0 n) = 0
      rw [ih (by omega), bpF_n]
      intro h
      have := hw.V.ev n (by omega)
      omega
  exact this _ (Nat.le_refl _)
theorem smV_6 {W : WW} (hw : WOK W) {a r d : Int32} : itN (smF W a r d) 0 6 = smV W a r d := by
  have h6 := hw.V.ne
  unfold smV
  have : ∀ m, itN (smF W a r d) 0 (W.V.ne + m) = itN (smF W a r d) 0 W.V.ne := by
    intro m
    induction m with
    | zero => rfl
    | succ m ih =>
      show itN (smF W a r d) 0 (W.V.ne + m) + bpV W a r d (W.V.ne + m) = _
      rw [ih, bpV_0 hw (by omega), Int32.add_zero]
  have h := this (6 - W.V.ne)
  rw [show W.V.ne + (6 - W.V.ne) = 6 by omega] at h
  exact h
theorem c_fill6 (S : CS) : ∃ S', f_J7_fill_53178_x_bestPoints S 0 = some S' ∧ gI [] [44] S S' ∧ ∀ a, a < 6 → S'.2.1 44 a = 0 := by
  unfold f_J7_fill_53178_x_bestPoints L_J7_fill_53178_x_bestPoints_5
  refine lq2 (Q := fun o => ∃ S', o = some S' ∧ gI [] [44] S S' ∧ ∀ a, a < 6 → S'.2.1 44 a = 0) 6 (fun i S1 => gI [] [44] S S1 ∧ ∀ a, a < i → S1.2.1 44 a = 0) ?_ 0 rfl (Nat.zero_le _) (FU_gt (by omega)) ⟨gI_rf, fun a ha => by omega⟩
  rintro i S1 kk hi ⟨hg, hp⟩ hr
  by_cases c : i < 6
  · rw [if_neg (fun h => by rw [show (6 : Int32) = nI 6 from rfl, nI_leI (by omega) (by omega)] at h; omega), chk_nI c (by decide), nI_clamp (by omega), lt_eq, lt_eq, nI_1]
    refine hr _ c ⟨gI_ca hg (by decide), fun a ha => ?_⟩
    show upd (S1.2.1 44) i 0 a = 0
    by_cases z : a = i
    · subst z; rw [pk_us]
    · rw [pk_un z]; exact hp a (by omega)
  · have : i = 6 := by omega
    subst this
    rw [if_pos (by decide)]
    exact ⟨S1, rfl, hg, hp⟩
theorem c_sum {W : WW} {S : CS} (hw : WOK W) (hS : tW W S) (a r d : Int32) : ∃ S', f_X11_sumOfBest S a r d = some (smV W a r d, S') ∧ gI [25] [44, 52] S S' := by
  have hV := hw.V
  have hn := hV.n
  obtain ⟨S0, z1, z2, z3⟩ := c_fill6 S
  unfold f_X11_sumOfBest
  rw [z1, bp_some]
  unfold L_X11_sumOfBest_11
  refine lq2 (Q := fun o => ∃ S', o = some (smV W a r d, S') ∧ gI [25] [44, 52] S S') W.V.n (fun k S1 => gI [25] [44, 52] S S1 ∧ ∀ e, e < 6 → S1.2.1 44 e = itN (bpF W a r d e) 0 k) ?_ 0 rfl (Nat.zero_le _) (FU_gt (by omega)) ⟨gI_tr gI_rf z2 (by decide) (by decide), z3⟩
  rintro k S1 kk hk ⟨hg, hp⟩ hr
  have hS1 := cqf_W hS (cqf_of hg (by decide) (by decide))
  by_cases c : k < W.V.n
  · have kb := vk hV c
    obtain ⟨S2, g1, g2⟩ := c_pt hw hS1 c
    have hg2 : gI [25] [44, 52] S S2 := gI_tr hg g2 (by decide) (by decide)
    rw [hS1.V.n, if_neg (fun h => by rw [nI_leI (by omega) (by omega)] at h; omega)]
    simp only [chk_nI (show k < 60 by omega) (by decide), nI_clamp (show k < 2 ^ 31 by omega), hS1.V.ath k c, hS1.V.ev k c, lt_eq, jn0, c_stand hV hS1.V c, bp_some, chk_nI (show W.V.ath k < 16 by omega) (by decide), nI_clamp (show W.V.ath k < 2 ^ 31 by omega), hS1.V.a1 _ kb.2.2.2.2.2.2.1, chk_nI (show W.V.ev k < 6 by omega) (by decide), nI_clamp (show W.V.ev k < 2 ^ 31 by omega), g1, bw_some, nI_1]
    have hr := fun s h1 h2 => hr s c ⟨h1, h2⟩
    have hst : ∀ e, itN (bpF W a r d e) 0 (k + 1) = bpF W a r d e k (itN (bpF W a r d e) 0 k) := fun _ => rfl
    have no : ¬ spB W.V a r d k → ∃ S', kk S1 (nI (k + 1)) = some (smV W a r d, S') ∧ gI [25] [44, 52] S S' := fun hz => hr S1 hg (fun e he => by rw [hst, bpF_n (fun y => hz y.1)]; exact hp e he)
    have yes : spB W.V a r d k → ∃ S', kk (ca S2 44 (upd (S2.2.1 44) (W.V.ev k) (if S1.2.1 44 (W.V.ev k) < ptV W k then ptV W k else S1.2.1 44 (W.V.ev k)))) (nI (k + 1)) = some (smV W a r d, S') ∧ gI [25] [44, 52] S S' := by
      intro hz
      refine hr _ (gI_ca hg2 (by decide)) (fun e he => ?_)
      show upd (S2.2.1 44) (W.V.ev k) _ e = _
      rw [hst]
      by_cases y : e = W.V.ev k
      · subst y; rw [pk_us, bpF_y ⟨hz, rfl⟩, hp _ he]
      · rw [pk_un y, bpF_n (fun q => y q.2.symm), g2.2.1 44 (by decide)]; exact hp e he
    -- standing
    have st : ∀ (_ : a = -1 ∨ nI (W.V.ath k) = a) (_ : r = -1 ∨ W.V.a1 (W.V.ath k) = r), ∃ S', (if vStand W.V k d = true then kk (ca S2 44 (upd (S2.2.1 44) (W.V.ev k) (if S1.2.1 44 (W.V.ev k) < ptV W k then ptV W k else S1.2.1 44 (W.V.ev k)))) (nI (k + 1)) else kk S1 (nI (k + 1))) = some (smV W a r d, S') ∧ gI [25] [44, 52] S S' := by
      intro q1 q2
      by_cases q3 : vStand W.V k d = true
      · rw [if_pos q3]; exact yes ⟨q1, q2, q3⟩
      · rw [if_neg q3]; exact no (fun z => q3 z.2.2)
    have ar : ∀ (_ : a = -1 ∨ nI (W.V.ath k) = a), ∃ S', (if r = -1 then (if vStand W.V k d = true then kk (ca S2 44 (upd (S2.2.1 44) (W.V.ev k) (if S1.2.1 44 (W.V.ev k) < ptV W k then ptV W k else S1.2.1 44 (W.V.ev k)))) (nI (k + 1)) else kk S1 (nI (k + 1))) else if W.V.a1 (W.V.ath k) = r then (if vStand W.V k d = true then kk (ca S2 44 (upd (S2.2.1 44) (W.V.ev k) (if S1.2.1 44 (W.V.ev k) < ptV W k then ptV W k else S1.2.1 44 (W.V.ev k)))) (nI (k + 1)) else kk S1 (nI (k + 1))) else kk S1 (nI (k + 1))) = some (smV W a r d, S') ∧ gI [25] [44, 52] S S' := by
      intro q1
      by_cases c1 : r = -1
      · rw [if_pos c1]; exact st q1 (Or.inl c1)
      · rw [if_neg c1]
        by_cases c2 : W.V.a1 (W.V.ath k) = r
        · rw [if_pos c2]; exact st q1 (Or.inr c2)
        · rw [if_neg c2]; exact no (fun z => z.2.1.elim c1 c2)
    by_cases c1 : a = -1
    · rw [if_pos c1]; exact ar (Or.inl c1)
    · rw [if_neg c1]
      by_cases c2 : nI (W.V.ath k) = a
      · rw [if_pos c2]; exact ar (Or.inr c2)
      · rw [if_neg c2]; exact no (fun z => z.1.elim c1 c2)
  · have : k = W.V.n := by omega
    subst this
    rw [hS1.V.n, if_pos ((nI_leI (by omega) (by omega)).mpr (by omega))]
    have hs : L_X11_sumOfBest_139 S1 6 (fun x34 => some (x34, S1)) FU 0 0 = some (smV W a r d, S1) := by
      unfold L_X11_sumOfBest_139
      rw [← smV_6 hw]
      refine lf1 (smF W a r d) 0 0 6 (FU_gt (by omega)) ?_ ?_ rfl rfl (Nat.zero_le _)
      · intro e kk _ he
        rw [if_neg (fun h => by rw [show (6 : Int32) = nI 6 from rfl, nI_leI (by omega) (by omega)] at h; omega), chk_nI he (by decide), nI_clamp (by omega), hp e he, lt_eq, lt_eq, lt_eq, nI_1]
        rfl
      · intro kk
        rw [if_pos (by decide)]
    dsimp only
    rw [hs]
    exact ⟨S1, rfl, hg⟩
theorem m_best6 {W : WW} {M : MS} (hw : WOK W) (hA : tA W (M.2 0)) (a r d : Int32) {e : Nat} (he : e < W.V.ne) (hr6 : r = -1 ∨ inR r 6 = true) : ∃ M', f_X12_bestPoints M (nI e) a r d = some (bpV W a r d e, M') ∧ fI [] [17] M M' := by
  have hV := hw.V
  have hn := hV.n
  unfold f_X12_bestPoints L_X12_bestPoints_6 bpV
  refine lq3 (Q := fun o => ∃ M', o = some (itN (bpF W a r d e) 0 W.V.n, M') ∧ fI [] [17] M M') W.V.n (fun k M1 x => fI [] [17] M M1 ∧ x = itN (bpF W a r d e) 0 k) ?_ 0 rfl (Nat.zero_le _) (FU_gt (by omega)) ⟨fI_rf, rfl⟩
  rintro k M1 x kk hk ⟨hg, rfl⟩ hr
  have hA1 : tA W (M1.2 0) := by rw [hg.2 0 (by decide)]; exact hA
  have hR1 := hA1.R
  rw [chk_c3, m_A3 hR1]
  by_cases c : k < W.V.n
  · have kb := vk hV c
    obtain ⟨M2, g1, g2⟩ := m_pt hw hA1 c
    have hg2 : fI [] [17] M M2 := fI_tr hg g2 (by decide) (by decide)
    rw [if_neg (fun h => by rw [nI_leI (by omega) (by omega)] at h; omega)]
    simp only [m_o0 hV hR1 c, m_o1 hV hR1 c, bp_some, m_stand hV hR1 c, jn0, jn1, g1, bw_some, lt_eq, nI_1]
    have hr := fun s x h1 h2 => hr s x c ⟨h1, h2⟩
    have hst : itN (bpF W a r d e) 0 (k + 1) = bpF W a r d e k (itN (bpF W a r d e) 0 k) := rfl
    rw [hst] at hr
    generalize itN (bpF W a r d e) 0 k = x at hr
    have no : ¬ (spB W.V a r d k ∧ W.V.ev k = e) → ∃ M', kk M1 x (nI (k + 1)) = some (itN (bpF W a r d e) 0 W.V.n, M') ∧ fI [] [17] M M' := fun hz => hr M1 x hg (by rw [bpF_n hz])
    have yes : spB W.V a r d k ∧ W.V.ev k = e → ∃ M', (if ptV W k ≤ x then kk M2 x (nI (k + 1)) else kk M2 (ptV W k) (nI (k + 1))) = some (itN (bpF W a r d e) 0 W.V.n, M') ∧ fI [] [17] M M' := by
      intro hz
      rw [ite_flip]
      by_cases y : x < ptV W k
      · rw [if_pos y]; exact hr M2 _ hg2 (by rw [bpF_y hz, if_pos y])
      · rw [if_neg y]; exact hr M2 _ hg2 (by rw [bpF_y hz, if_neg y])
    by_cases ce : W.V.ev k = e
    · rw [if_pos (by rw [ce])]
      by_cases cs : vStand W.V k d = true
      · rw [if_pos cs]
        have hwi : ¬ r = -1 → ∃ b, f_X12_isWithin M1 (nI k) (r + 1) = some b ∧ (b = true ↔ W.V.a1 (W.V.ath k) = r) := by
          intro hz
          obtain ⟨q, hq, rfl⟩ := inR_nI (hr6.resolve_left hz)
          rw [nI_1, m_with hV hR1 c (show q + 1 < 22 by omega)]
          refine ⟨_, rfl, ?_⟩
          unfold vWith
          rw [if_neg (by omega), if_pos (by omega), nI_pred, beq_iff_eq]
        have ar : ∀ (_ : a = -1 ∨ nI (W.V.ath k) = a), ∃ M', (if r = -1 then (if ptV W k ≤ x then kk M2 x (nI (k + 1)) else kk M2 (ptV W k) (nI (k + 1))) else bp (f_X12_isWithin M1 (nI k) (r + 1)) (fun x20 => if x20 = true then (if ptV W k ≤ x then kk M2 x (nI (k + 1)) else kk M2 (ptV W k) (nI (k + 1))) else kk M1 x (nI (k + 1)))) = some (itN (bpF W a r d e) 0 W.V.n, M') ∧ fI [] [17] M M' := by
          intro q1
          by_cases c1 : r = -1
          · rw [if_pos c1]; exact yes ⟨⟨q1, Or.inl c1, cs⟩, ce⟩
          · obtain ⟨b, b1, b2⟩ := hwi c1
            rw [if_neg c1, b1, bp_some]
            by_cases c2 : b = true
            · rw [if_pos c2]; exact yes ⟨⟨q1, Or.inr (b2.mp c2), cs⟩, ce⟩
            · rw [if_neg c2]; exact no (fun z => z.1.2.1.elim c1 (fun y => c2 (b2.mpr y)))
        by_cases c1 : a = -1
        · rw [if_pos c1]; exact ar (Or.inl c1)
        · rw [if_neg c1]
          by_cases c2 : nI (W.V.ath k) = a
          · rw [if_pos c2]; exact ar (Or.inr c2)
          · rw [if_neg c2]; exact no (fun z => z.1.1.elim c1 c2)
      · rw [if_neg cs]; exact no (fun z => cs z.1.2.2)
    · rw [if_neg (fun h => ce ((nI_eq (by omega) (by omega)).mp h))]; exact no (fun z => ce z.2)
  · have : k = W.V.n := by omega
    subst this
    rw [if_pos ((nI_leI (by omega) (by omega)).mpr (by omega))]
    exact ⟨M1, rfl, hg⟩
theorem m_sum {W : WW} {M : MS} (hw : WOK W) (hA : tA W (M.2 0)) (a r d : Int32) (hr6 : r = -1 ∨ inR r 6 = true) : ∃ M', f_X12_sumPoints M a r d = some (smV W a r d, M') ∧ fI [] [17] M M' := by
  have h6 := hw.V.ne
  unfold f_X12_sumPoints L_X12_sumPoints_6 smV
  refine lq3 (Q := fun o => ∃ M', o = some (itN (smF W a r d) 0 W.V.ne, M') ∧ fI [] [17] M M') W.V.ne (fun e M1 x => fI [] [17] M M1 ∧ x = itN (smF W a r d) 0 e) ?_ 0 rfl (Nat.zero_le _) (FU_gt (by omega)) ⟨fI_rf, rfl⟩
  rintro e M1 x kk he ⟨hg, rfl⟩ hr
  have hA1 : tA W (M1.2 0) := by rw [hg.2 0 (by decide)]; exact hA
  rw [chk_c0, m_A0 hA1.R]
  by_cases c : e < W.V.ne
  · obtain ⟨M2, g1, g2⟩ := m_best6 hw hA1 a r d c hr6
    rw [if_neg (fun h => by rw [nI_leI (by omega) (by omega)] at h; omega), g1, bw_some, lt_eq, lt_eq, nI_1]
    exact hr M2 _ c ⟨fI_tr hg g2 (by decide) (by decide), rfl⟩
  · have : e = W.V.ne := by omega
    subst this
    rw [if_pos ((nI_leI (by omega) (by omega)).mpr (by omega))]
    exact ⟨M1, rfl, hg⟩
theorem q_table (T : XS) (M : MS) (a1 a2 : Int32) (h : RLL T M) : ∃ (r : Int32) (T' : XS) (M' : MS), fo_table T a1 a2 = some (r, T') ∧ fm_table M a1 a2 = some (r, M') ∧ RLL T' M' := by
  obtain ⟨W, Ws, hh⟩ := id h
  unfold fo_table fm_table f_X11_table f_X12_table
  rw [ite_gt2 5 (by decide) (show (5 : Int32) = nI 5 from rfl), isIn_n (x := a1) (y := 5) 5 (by decide) rfl, isIn_n (x := a2) (y := 20000) 20000 (by decide) rfl, c_isDay]
  simp only [bp_some]
  cases h1 : inR a1 6 with
  | false => exact ⟨_, _, _, rfl, rfl, h⟩
  | true =>
    cases h2 : inR a2 20001 with
    | false => exact ⟨_, _, _, rfl, rfl, h⟩
    | true =>
      obtain ⟨S', c1, c2⟩ := c_sum hh.w hh.c (-1) a1 a2
      obtain ⟨M', d1, d2⟩ := m_sum hh.w hh.m (-1) a1 a2 (Or.inr h1)
      simp only [if_true]
      rw [c1, d1]
      exact ⟨_, _, _, rfl, rfl, RL_q h (cqf_of c2 (by decide) (by decide)) (mqf_of d2 (by decide) (by decide))⟩
noncomputable def chF (W : WW) (d : Int32) (a : Nat) (p : Int32 × Int32) : Int32 × Int32 := if p.2 < smV W (nI a) (-1) d then (nI a, smV W (nI a) (-1) d) else p
theorem q_champion (T : XS) (M : MS) (a1 a2 : Int32) (h : RLL T M) : ∃ (r : Int32) (T' : XS) (M' : MS), fo_champion T a1 a2 = some (r, T') ∧ fm_champion M a1 a2 = some (r, M') ∧ RLL T' M' := by
  obtain ⟨W, Ws, hh⟩ := id h
  have h16 := hh.w.V.na
  unfold fo_champion fm_champion f_X11_champion f_X12_champion
  rw [ite_le2 1 (by decide) (show (1 : Int32) = nI 1 from rfl), isIn_n (x := a1) (y := 20000) 20000 (by decide) rfl, isIn_n (x := a2) (y := 1) 1 (by decide) rfl, c_isDay]
  simp only [bp_some]
  cases h1 : inR a1 20001 with
  | false => exact ⟨_, _, _, rfl, rfl, h⟩
  | true =>
    cases h2 : inR a2 2 with
    | false => exact ⟨_, _, _, rfl, rfl, h⟩
    | true =>
      simp only [if_true]
      have hc : ∃ S', L_X11_champion_27 a1 (fun S17 x18 x19 => if a2 = 0 then some (x18, S17) else some (x19, S17)) FU T.1 (-1) 0 0 = (if a2 = 0 then some ((itN (chF W a1) (-1, 0) W.V.na).1, S') else some ((itN (chF W a1) (-1, 0) W.V.na).2, S')) ∧ gI [25] [44, 52] T.1 S' := by
        unfold L_X11_champion_27
        refine lq4 (Q := fun o => ∃ S', o = (if a2 = 0 then some ((itN (chF W a1) (-1, 0) W.V.na).1, S') else some ((itN (chF W a1) (-1, 0) W.V.na).2, S')) ∧ gI [25] [44, 52] T.1 S') W.V.na (fun a S1 x y => gI [25] [44, 52] T.1 S1 ∧ x = (itN (chF W a1) (-1, 0) a).1 ∧ y = (itN (chF W a1) (-1, 0) a).2) ?_ 0 rfl (Nat.zero_le _) (FU_gt (by omega)) ⟨gI_rf, rfl, rfl⟩
        rintro a S1 x y kk ha ⟨hg, rfl, rfl⟩ hr
        have hS1 := cqf_W hh.c (cqf_of hg (by decide) (by decide))
        by_cases c : a < W.V.na
        · obtain ⟨S2, g1, g2⟩ := c_sum hh.w hS1 (nI a) (-1) a1
          have hg2 : gI [25] [44, 52] T.1 S2 := gI_tr hg g2 (by decide) (by decide)
          rw [hS1.V.na, if_neg (fun h => by rw [nI_leI (by omega) (by omega)] at h; omega), g1, bw_some, ite_flip]
          simp only [lt_eq, nI_1]
          have hst : itN (chF W a1) (-1, 0) (a + 1) = chF W a1 a (itN (chF W a1) (-1, 0) a) := rfl
          rw [hst] at hr
          generalize itN (chF W a1) (-1, 0) a = p at hr
          by_cases z : p.2 < smV W (nI a) (-1) a1
          · rw [if_pos z]; exact hr S2 _ _ c ⟨hg2, by unfold chF; rw [if_pos z], by unfold chF; rw [if_pos z]⟩
          · rw [if_neg z]; exact hr S2 _ _ c ⟨hg2, by unfold chF; rw [if_neg z], by unfold chF; rw [if_neg z]⟩
        · have : a = W.V.na := by omega
          subst this
          rw [hS1.V.na, if_pos ((nI_leI (by omega) (by omega)).mpr (by omega))]
          exact ⟨S1, rfl, hg⟩
      have hm : ∃ M', L_X12_champion_31 a1 (fun S18 x19 x20 => if a2 = 0 then some (x19, S18) else some (x20, S18)) FU M (-1) 0 0 = (if a2 = 0 then some ((itN (chF W a1) (-1, 0) W.V.na).1, M') else some ((itN (chF W a1) (-1, 0) W.V.na).2, M')) ∧ fI [] [17] M M' := by
        unfold L_X12_champion_31
        refine lq4 (Q := fun o => ∃ M', o = (if a2 = 0 then some ((itN (chF W a1) (-1, 0) W.V.na).1, M') else some ((itN (chF W a1) (-1, 0) W.V.na).2, M')) ∧ fI [] [17] M M') W.V.na (fun a M1 x y => fI [] [17] M M1 ∧ x = (itN (chF W a1) (-1, 0) a).1 ∧ y = (itN (chF W a1) (-1, 0) a).2) ?_ 0 rfl (Nat.zero_le _) (FU_gt (by omega)) ⟨fI_rf, rfl, rfl⟩
        rintro a M1 x y kk ha ⟨hg, rfl, rfl⟩ hr
        have hA1 : tA W (M1.2 0) := by rw [hg.2 0 (by decide)]; exact hh.m
        rw [chk_c2, m_A2 hA1.R]
        by_cases c : a < W.V.na
        · obtain ⟨M2, g1, g2⟩ := m_sum hh.w hA1 (nI a) (-1) a1 (Or.inl rfl)
          have hg2 : fI [] [17] M M2 := fI_tr hg g2 (by decide) (by decide)
          rw [if_neg (fun h => by rw [nI_leI (by omega) (by omega)] at h; omega), g1, bw_some]
          simp only [lt_eq, nI_1]
          have hst : itN (chF W a1) (-1, 0) (a + 1) = chF W a1 a (itN (chF W a1) (-1, 0) a) := rfl
          rw [hst] at hr
          generalize itN (chF W a1) (-1, 0) a = p at hr
          by_cases z : p.2 < smV W (nI a) (-1) a1
          · rw [if_pos z]; exact hr M2 _ _ c ⟨hg2, by unfold chF; rw [if_pos z], by unfold chF; rw [if_pos z]⟩
          · rw [if_neg z]; exact hr M2 _ _ c ⟨hg2, by unfold chF; rw [if_neg z], by unfold chF; rw [if_neg z]⟩
        · have : a = W.V.na := by omega
          subst this
          rw [if_pos ((nI_leI (by omega) (by omega)).mpr (by omega))]
          exact ⟨M1, rfl, hg⟩
      obtain ⟨S', e1, e2⟩ := hc
      obtain ⟨M', e3, e4⟩ := hm
      rw [e1, e3]
      have hfin := RL_q h (cqf_of e2 (by decide) (by decide)) (mqf_of e4 (by decide) (by decide))
      by_cases z : a2 = 0
      · rw [if_pos z, if_pos z]; exact ⟨_, _, _, rfl, rfl, hfin⟩
      · rw [if_neg z, if_neg z]; exact ⟨_, _, _, rfl, rfl, hfin⟩
