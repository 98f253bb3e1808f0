/-! ban; the five as questions -/
def banP (V : VW) (a : Nat) (x y : Int32) (k : Nat) : Prop := V.ath k = a ∧ V.sk k = -1 ∧ ¬ nI (V.dy k) < x ∧ ¬ y < nI (V.dy k)
noncomputable def banF (V : VW) (a : Nat) (x y : Int32) (i : Nat) (k : Nat) : Int32 := @ite _ (k < i ∧ banP V a x y k) (Classical.propDecidable _) (nI V.td) (V.sk k)
theorem banF_y {V : VW} {a : Nat} {x y : Int32} {i k : Nat} (h : k < i ∧ banP V a x y k) : banF V a x y i k = nI V.td := if_pos h
theorem banF_n {V : VW} {a : Nat} {x y : Int32} {i k : Nat} (h : ¬ (k < i ∧ banP V a x y k)) : banF V a x y i k = V.sk k := if_neg h
theorem banF_z {V : VW} {a : Nat} {x y : Int32} : banF V a x y 0 = V.sk := funext (fun k => banF_n (fun h => by have := h.1; omega))
theorem banF_sn {V : VW} {a : Nat} {x y : Int32} {i : Nat} (h : ¬ banP V a x y i) : banF V a x y (i + 1) = banF V a x y i := by
  funext k
  by_cases c : k < i ∧ banP V a x y k
  · rw [banF_y c, banF_y ⟨by omega, c.2⟩]
  · rw [banF_n c, banF_n (fun z => by
      by_cases e : k = i
      · subst e; exact h z.2
      · exact c ⟨by omega, z.2⟩)]
theorem banF_sy {V : VW} {a : Nat} {x y : Int32} {i : Nat} (h : banP V a x y i) : banF V a x y (i + 1) = upN (banF V a x y i) i (nI V.td) := by
  funext k
  by_cases e : k = i
  · subst e; rw [upN_s, banF_y ⟨by omega, h⟩]
  · rw [upN_n e]
    by_cases c : k < i ∧ banP V a x y k
    · rw [banF_y c, banF_y ⟨by omega, c.2⟩]
    · rw [banF_n c, banF_n (fun z => c ⟨by omega, z.2⟩)]
theorem VOK_ban {V : VW} (h : VOK V) {a : Nat} {x y : Int32} {i : Nat} : VOK (V.wsk (banF V a x y i)) := by
  refine ⟨h.ne, h.np, h.na, h.n, h.td, h.e0, h.a0, h.ev, h.ath, h.pl, h.dy, h.mi, h.va, h.pa, h.ra, fun j hj => ?_⟩
  show banF V a x y i j = -1 ∨ ∃ d, d ≤ V.td ∧ banF V a x y i j = nI d
  by_cases c : j < i ∧ banP V a x y j
  · rw [banF_y c]; exact Or.inr ⟨V.td, Nat.le_refl _, rfl⟩
  · rw [banF_n c]; exact h.sk j hj
theorem c_ban {W : WW} {S : CS} {a : Nat} {x y : Int32} {kk0 : CS → Int64 → Int32 → Option RX} (hw : WOK W) (hS : tW W S) (ha : a < 16) : ∃ g b, L_X11_ban_30 (nI a) x y kk0 FU S 0 0 0 = kk0 (ca S 23 g) (lN b) (nI (selP (banP W.V a x y) W.V.n).length) ∧ (∀ j, j < W.V.n → g j = banF W.V a x y W.V.n j) ∧ b < 2 ^ 60 ∧ ∀ j, j < W.V.n → (b.testBit j = true ↔ banP W.V a x y j) := by
  have hV := hw.V
  have hn := hV.n
  unfold L_X11_ban_30
  refine lq4 (Q := fun o => ∃ g b, o = kk0 (ca S 23 g) (lN b) (nI (selP (banP W.V a x y) W.V.n).length) ∧ (∀ j, j < W.V.n → g j = banF W.V a x y W.V.n j) ∧ b < 2 ^ 60 ∧ ∀ j, j < W.V.n → (b.testBit j = true ↔ banP W.V a x y j)) W.V.n (fun i S1 u v => ∃ g b, S1 = ca S 23 g ∧ (∀ j, j < W.V.n → g j = banF W.V a x y i j) ∧ u = lN b ∧ b < 2 ^ 60 ∧ v = nI (selP (banP W.V a x y) i).length ∧ ∀ j, (b.testBit j = true ↔ j < i ∧ banP W.V a x y j)) ?_ 0 rfl (Nat.zero_le _) (FU_gt (by omega)) ⟨S.2.1 23, 0, ?_, fun j hj => ?_, rfl, by decide, rfl, fun j => ?_⟩
  · rintro i S1 u v kk hi ⟨g, b, rfl, h1, rfl, hb, rfl, hbits⟩ hr
    have e6 : (ca S 23 g).1 6 = nI W.V.n := hS.V.n
    have e0 : (ca S 23 g).1 0 = nI W.V.td := hS.V.td
    have e23 : (ca S 23 g).2.1 23 = g := by show up S.2.1 23 g 23 = g; exact up_eq
    rw [e6]
    by_cases c : i < W.V.n
    · have ib := vk hV c
      have e16 : (ca S 23 g).2.1 16 i = nI (W.V.dy i) := hS.V.dy i c
      have e14 : (ca S 23 g).2.1 14 i = nI (W.V.ath i) := hS.V.ath i c
      have eg : g i = W.V.sk i := by rw [h1 i c, banF_n (fun z => by have := z.1; omega)]
      have hcc : ∀ x, ca (ca S 23 g) 23 x = ca S 23 x := fun x => by
        unfold ca
        dsimp only
        congr 2
        funext j
        by_cases z : j = 23
        · subst z; rw [up_eq, up_eq]
        · rw [up_ne z, up_ne z, up_ne z]
      have ebit : (1 : Int64) <<< ((nI i).toInt64 &&& 63) = lN (2 ^ i) := l_shl (by omega) (sh_j ⟨i, by omega⟩)
      rw [if_neg (fun h => by rw [nI_leI (by omega) (by omega)] at h; omega)]
      simp only [chk_nI (show i < 60 by omega) (by decide), nI_clamp (show i < 2 ^ 31 by omega), e16, e14, e23, eg, e0, lt_eq, nI_1, hcc, ebit, lN_or]
      have hr := fun s u v h => hr s u v c h
      have skip : ¬ banP W.V a x y i → ∃ g' b', kk (ca S 23 g) (lN b) (nI (selP (banP W.V a x y) i).length) (nI (i + 1)) = kk0 (ca S 23 g') (lN b') (nI (selP (banP W.V a x y) W.V.n).length) ∧ (∀ j, j < W.V.n → g' j = banF W.V a x y W.V.n j) ∧ b' < 2 ^ 60 ∧ ∀ j, j < W.V.n → (b'.testBit j = true ↔ banP W.V a x y j) := by
        intro hz
        refine hr _ _ _ ⟨g, b, rfl, fun j hj => by rw [banF_sn hz]; exact h1 j hj, rfl, hb, by rw [selP_n hz], fun j => ?_⟩
        rw [hbits j]
        exact ⟨fun z => ⟨by omega, z.2⟩, fun z => by
          by_cases e : j = i
          · subst e; exact absurd z.2 hz
          · exact ⟨by omega, z.2⟩⟩
      by_cases c1 : W.V.ath i = a
      · rw [if_pos (by rw [c1])]
        by_cases c2 : W.V.sk i = -1
        · rw [if_pos c2]
          by_cases c3 : nI (W.V.dy i) < x
          · rw [if_pos c3]; exact skip (fun z => z.2.2.1 c3)
          · rw [if_neg c3]
            by_cases c4 : y < nI (W.V.dy i)
            · rw [if_pos c4]; exact skip (fun z => z.2.2.2 c4)
            · rw [if_neg c4]
              have hz : banP W.V a x y i := ⟨c1, c2, c3, c4⟩
              refine hr _ _ _ ⟨upd g i (nI W.V.td), b ||| 2 ^ i, rfl, fun j hj => ?_, rfl, ?_, by rw [selP_y hz], fun j => ?_⟩
              · rw [banF_sy hz]
                by_cases e : j = i
                · subst e; rw [pk_us, upN_s]
                · rw [pk_un e, upN_n e]; exact h1 j hj
              · exact Nat.or_lt_two_pow hb (Nat.pow_lt_pow_right (by decide) (by omega))
              · rw [Nat.testBit_or, Nat.testBit_two_pow, Bool.or_eq_true, hbits j, decide_eq_true_eq]
                constructor
                · rintro (z | z)
                  · exact ⟨by omega, z.2⟩
                  · subst z; exact ⟨by omega, hz⟩
                · rintro ⟨z1, z2⟩
                  by_cases e : j = i
                  · exact Or.inr e.symm
                  · exact Or.inl ⟨by omega, z2⟩
        · rw [if_neg c2]; exact skip (fun z => c2 z.2.1)
      · rw [if_neg (fun h => c1 ((nI_eq (by omega) (by omega)).mp h))]; exact skip (fun z => c1 z.1)
    · have : i = W.V.n := by omega
      subst this
      rw [if_pos ((nI_leI (by omega) (by omega)).mpr (by omega))]
      exact ⟨g, b, rfl, h1, hb, fun j hj => by rw [hbits j]; exact ⟨fun z => z.2, fun z => ⟨hj, z⟩⟩⟩
  · unfold ca
    have : up S.2.1 23 (S.2.1 23) = S.2.1 := by
      funext j
      by_cases z : j = 23
      · subst z; rw [up_eq]
      · rw [up_ne z]
    rw [this]
  · rw [banF_z]; exact hS.V.sk j hj
  · rw [Nat.zero_testBit]
    exact ⟨fun z => (by cases z), fun z => (by have := z.1; omega)⟩
theorem m_ban {W : WW} {M : MS} {a : Nat} {x y : Int32} (hw : WOK W) (hA : tA W (M.2 0)) (ha : a < 16) : ∃ M', L_X12_ban_25 (nI a) x y (fun S23 x24 => some (x24, S23)) FU M 0 0 = some (nI (selP (banP W.V a x y) W.V.n).length, M') ∧ fI [] [0] M M' ∧ tA (W.wV (W.V.wsk (banF W.V a x y W.V.n))) (M'.2 0) := by
  have hV := hw.V
  have hn := hV.n
  unfold L_X12_ban_25
  refine lq3 (Q := fun o => ∃ M', o = some (nI (selP (banP W.V a x y) W.V.n).length, M') ∧ fI [] [0] M M' ∧ tA (W.wV (W.V.wsk (banF W.V a x y W.V.n))) (M'.2 0)) W.V.n (fun i M1 v => fI [] [0] M M1 ∧ tA (W.wV (W.V.wsk (banF W.V a x y i))) (M1.2 0) ∧ v = nI (selP (banP W.V a x y) i).length) ?_ 0 rfl (Nat.zero_le _) (FU_gt (by omega)) ⟨fI_rf, by rw [banF_z]; exact hA, rfl⟩
  rintro i M1 v kk hi ⟨hg, hA1, rfl⟩ hr
  have hV1 : VOK (W.wV (W.V.wsk (banF W.V a x y i))).V := VOK_ban hV
  have hR1 := hA1.R
  have e3 : M1.2 0 (3 : Int32).toNatClampNeg = nI W.V.n := hR1.n
  have e4 : M1.2 0 (4 : Int32).toNatClampNeg = nI W.V.td := hR1.td
  rw [chk_c3, e3]
  by_cases c : i < W.V.n
  · have ib := vk hV c
    have o1 : f_X12_of M1 (nI i) 1 = some (nI (W.V.ath i)) := m_o1 hV1 hR1 c
    have o3 : f_X12_of M1 (nI i) 3 = some (nI (W.V.dy i)) := m_o3 hV1 hR1 c
    have o10 : f_X12_of M1 (nI i) 10 = some (W.V.sk i) := by
      rw [m_o10 hV1 hR1 c]
      exact congrArg some (banF_n (fun z => by have := z.1; omega))
    rw [if_neg (fun h => by rw [nI_leI (by omega) (by omega)] at h; omega), o1, bp_some]
    unfold f_X12_markAt
    simp only [o3, o10, bp_some, lt_eq, nI_1, chk_c4, e4, markAt_e (show i < 60 by omega) (show 10 ≤ 10 by decide) (show (10 : Int32) = nI 10 from rfl), chk_nI (show 65 + 11 * i + 10 < 1177 by omega) (by decide), nI_clamp (show 65 + 11 * i + 10 < 2 ^ 31 by omega)]
    have hr := fun s v h1 h2 h3 => hr s v c ⟨h1, h2, h3⟩
    have skip : ¬ banP W.V a x y i → ∃ M', kk M1 (nI (selP (banP W.V a x y) i).length) (nI (i + 1)) = some (nI (selP (banP W.V a x y) W.V.n).length, M') ∧ fI [] [0] M M' ∧ tA (W.wV (W.V.wsk (banF W.V a x y W.V.n))) (M'.2 0) := fun hz => hr _ _ hg (by rw [banF_sn hz]; exact hA1) (by rw [selP_n hz])
    unfold f_X12_isIn
    by_cases c1 : W.V.ath i = a
    · rw [if_pos (by rw [c1])]
      by_cases c3 : nI (W.V.dy i) < x
      · rw [if_pos c3, bp_some]; exact skip (fun z => z.2.2.1 c3)
      · rw [if_neg c3]
        by_cases c4 : y < nI (W.V.dy i)
        · rw [if_pos c4, bp_some]; exact skip (fun z => z.2.2.2 c4)
        · rw [if_neg c4, bp_some, if_pos rfl]
          by_cases c2 : W.V.sk i = -1
          · rw [if_pos c2]
            have hz : banP W.V a x y i := ⟨c1, c2, c3, c4⟩
            have hA2 := tA_sk hV1 hA1 (k := i) c (nI W.V.td)
            refine hr _ _ (fI_sa hg (by decide)) ?_ (by rw [selP_y hz])
            rw [banF_sy hz]
            exact hA2
          · rw [if_neg c2]; exact skip (fun z => c2 z.2.1)
    · rw [if_neg (fun h => c1 ((nI_eq (by omega) (by omega)).mp h))]; exact skip (fun z => c1 z.1)
  · have : i = W.V.n := by omega
    subst this
    rw [if_pos ((nI_leI (by omega) (by omega)).mpr (by omega))]
    exact ⟨M1, rfl, hg, hA1⟩
theorem d_ban {T : XS} {M : MS} (h : RLL T M) (a x y : Int32) : dRes T M (f_X11_ban T.1 a x y) (f_X12_ban M a x y) := by
  obtain ⟨W, Ws, hh⟩ := id h
  have hV := hh.w.V
  have h16 := hV.na
  unfold f_X11_ban f_X12_ban
  rw [c_hasA hV hh.c.V, m_isAth hV hh.m.R, bp_some, bp_some]
  cases h1 : inR a W.V.na with
  | false => exact dRes_no h _
  | true =>
    rw [if_pos rfl, if_pos rfl]
    by_cases c : x ≤ y
    · rw [if_pos c, if_pos c]
      obtain ⟨a, ha, rfl⟩ := inR_nI h1
      obtain ⟨M1, m1, m2, m3, m4⟩ := m_deed hh
      have hA1 : tA W (M1.2 0) := by rw [m2.2 0 (by decide)]; exact hh.m
      obtain ⟨M2, b1, b2, b3⟩ := m_ban (x := x) (y := y) hh.w hA1 (show a < 16 by omega)
      obtain ⟨g, b, g1, g2, g3, g4⟩ := c_ban (x := x) (y := y) (kk0 := fun S22 x23 x24 => bp (f_X3_add S22) (fun S26 => some (x24, S26, some ((S22.1 19), 4, (-1), (-1), x23)))) hh.w hh.c (show a < 16 by omega)
      obtain ⟨S2, s1, s2, s3, s4⟩ := c_add hh (S := ca T.1 23 g) rfl rfl
      rw [g1, s1, bp_some, m1, bp_some, b1]
      have hg : gI [19, 20] [23] T.1 S2 := gI_tr (gI_ca (ks := [19, 20]) gI_rf (by decide)) s2 (by decide) (by decide)
      have hf : fI [3] [0, 1] M M2 := fI_tr (fI_tr (ka := [0, 1]) fI_rf m2 (by decide) (by decide)) b2 (by decide) (by decide)
      refine ⟨_, _, rfl, rfl, ?_, afr_of hg hf (by decide) (by decide) (by decide) (by decide)⟩
      have hw2 : WOK (W.wV (W.V.wsk (banF W.V a x y W.V.n))) := WOK_sk hh.w (fun j hj => by
        by_cases z : j < W.V.n ∧ banP W.V a x y j
        · exact Or.inr (banF_y z)
        · exact Or.inl (banF_n z))
      have hW2 : tW (W.wV (W.V.wsk (banF W.V a x y W.V.n))) S2 := tW_gI (tW_wsk hh.c g2) s2 (by decide) (by decide)
      refine RL_deed hh (W' := W.wV (W.V.wsk (banF W.V a x y W.V.n))) hw2 hW2 b3 (rOK_d hh.r hg hf (by decide) (by decide) (by decide) (by decide) s4) s3 (by rw [b2.1 3 (by decide)]; exact m3) (dOK_sk hh.w hw2 g3 (fun j hj => ?_)) (by rw [b2.2 1 (by decide)]; exact m4)
      have q := g4 j hj
      exact ⟨fun z => (q.mp z).2.1, fun z => banF_n (fun y => by rw [q.mpr y.2] at z; cases z)⟩
    · rw [if_neg c, if_neg c]; exact dRes_no h _
theorem q_ratify (T : XS) (M : MS) (a1 : Int32) (h : RLL T M) : ∃ (r : Int32) (T' : XS) (M' : MS), fo_ratify T a1 = some (r, T') ∧ fm_ratify M a1 = some (r, M') ∧ RLL T' M' := by
  obtain ⟨r, M', e1, e2, e3, _⟩ := d_ratify h a1
  exact ⟨_, _, _, by unfold fo_ratify; rw [e1]; rfl, e2, e3⟩
theorem q_strike (T : XS) (M : MS) (a1 : Int32) (h : RLL T M) : ∃ (r : Int32) (T' : XS) (M' : MS), fo_strike T a1 = some (r, T') ∧ fm_strike M a1 = some (r, M') ∧ RLL T' M' := by
  obtain ⟨r, M', e1, e2, e3, _⟩ := d_strike h a1
  exact ⟨_, _, _, by unfold fo_strike; rw [e1]; rfl, e2, e3⟩
theorem q_ban (T : XS) (M : MS) (a1 a2 a3 : Int32) (h : RLL T M) : ∃ (r : Int32) (T' : XS) (M' : MS), fo_ban T a1 a2 a3 = some (r, T') ∧ fm_ban M a1 a2 a3 = some (r, M') ∧ RLL T' M' := by
  obtain ⟨r, M', e1, e2, e3, _⟩ := d_ban h a1 a2 a3
  exact ⟨_, _, _, by unfold fo_ban; rw [e1]; rfl, e2, e3⟩
theorem q_paper (T : XS) (M : MS) (a1 a2 : Int32) (h : RLL T M) : ∃ (r : Int32) (T' : XS) (M' : MS), fo_paper T a1 a2 = some (r, T') ∧ fm_paper M a1 a2 = some (r, M') ∧ RLL T' M' := by
  obtain ⟨r, M', e1, e2, e3, _⟩ := d_paper h a1 a2
  exact ⟨_, _, _, by unfold fo_paper; rw [e1]; rfl, e2, e3⟩
theorem q_days (T : XS) (M : MS) (a1 : Int32) (h : RLL T M) : ∃ (r : Int32) (T' : XS) (M' : MS), fo_days T a1 = some (r, T') ∧ fm_days M a1 = some (r, M') ∧ RLL T' M' := by
  obtain ⟨r, M', e1, e2, e3, _⟩ := d_days h a1
  exact ⟨_, _, _, by unfold fo_days; rw [e1]; rfl, e2, e3⟩
