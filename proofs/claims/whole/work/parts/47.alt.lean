/-! altered, without -/
theorem cqf_l2 {S S' : CS} {l : List Nat} (h : linD S l) (hg : gI [21] [37] S S') : linD S' l := ⟨by rw [hg.1 22 (by decide)]; exact h.1, by rw [hg.2.1 40 (by decide)]; exact h.2⟩
theorem cqf_l1 {S S' : CS} {l : List Nat} (h : linC S l) (hg : gI [22] [40] S S') : linC S' l := ⟨by rw [hg.1 21 (by decide)]; exact h.1, by rw [hg.2.1 37 (by decide)]; exact h.2⟩
/-- two chains laid one after the other, and what is fresh in the second -/
theorem m_two {W : WW} {M : MS} (hw : WOK W) (hR : tR W.V (M.2 0)) (h21 : M.1 21 = -1) (h22 : M.1 22 = -1) {e s : Nat} (he : e < W.V.ne) (hs : s < 22) (d1 d2 : Int32) : ∃ M1 M2 M3 M4 : MS, f_X12_layChain M (nI e) (nI s) d1 = some M1 ∧ f_X12_noteLinks M1 = some M2 ∧ f_X12_layChain M2 (nI e) (nI s) d2 = some M3 ∧ f_X12_countFresh M3 = some M4 ∧ mqf M M4 ∧ M4.1 24 = nI (notIn (ch W.V W.L e s d1) (ch W.V W.L e s d2)).length ∧ ∀ r, lowP (notIn (ch W.V W.L e s d1) (ch W.V W.L e s d2)) r → M4.1 25 = r := by
  have o1 := ch_cOK hw (e := e) (s := s) (d := d1)
  have o2 := ch_cOK hw (e := e) (s := s) (d := d2)
  obtain ⟨M1, a1, a2, a3⟩ := m_ch hw hR h21 h22 (d := d1) he hs
  obtain ⟨M2, b1, b2, b3⟩ := m_note hw.V o1.m o1.le a2
  have hf2 : fI [20] [18, 19, 23] M M2 := fI_tr (fI_tr fI_rf a3 (by decide) (by decide)) b2 (by decide) (by decide)
  obtain ⟨M3, c1, c2, c3⟩ := m_ch hw (M := M2) (by rw [hf2.2 0 (by decide)]; exact hR) (by rw [hf2.1 21 (by decide)]; exact h21) (by rw [hf2.1 22 (by decide)]; exact h22) (d := d2) he hs
  have hf3 : fI [20] [18, 19, 23] M M3 := fI_tr hf2 c3 (by decide) (by decide)
  obtain ⟨M4, d1', d2', d3, d4⟩ := m_fresh hw.V (M := M3) (l1 := ch W.V W.L e s d1) (by rw [hf3.2 0 (by decide)]; exact hR) o2.m o2.le c2 (by rw [c3.2 23 (by decide)]; exact b3)
  refine ⟨M1, M2, M3, M4, a1, b1, c1, d1', ?_, ?_, ?_⟩
  · exact fI_tr (fI_tr fI_rf hf3 (by decide) (by decide)) d2' (by decide) (by decide)
  · rw [d3, frsh_len o2.m (srt_nodup o2.so)]
  · intro r hr
    exact (lowP_un hr d4 (fun k => frsh_mem o2.m)).symm
theorem q_altered (T : XS) (M : MS) (a1 a2 a3 a4 : Int32) (h : RLL T M) : ∃ (r : Int32) (T' : XS) (M' : MS), fo_altered T a1 a2 a3 a4 = some (r, T') ∧ fm_altered M a1 a2 a3 a4 = some (r, M') ∧ RLL T' M' := by
  obtain ⟨W, Ws, hh⟩ := id h
  have hV := hh.w.V
  have hR := hh.m.R
  have hw := hh.w
  unfold fo_altered fm_altered f_X11_altered f_X12_altered
  rw [ite_gt2 191 (by decide) (show (191 : Int32) = nI 191 from rfl), ite_le2 3 (by decide) (show (3 : Int32) = nI 3 from rfl), isIn_n (x := a1) (y := 191) 191 (by decide) rfl, isIn_n (x := a3) (y := 20000) 20000 (by decide) rfl, isIn_n (x := a4) (y := 3) 3 (by decide) rfl, c_isDay]
  simp only [lt_eq, c_asked hV hh.c.V, m_asked hV hR, bp_some]
  cases h1 : inR a1 192 with
  | false => exact ⟨_, _, _, rfl, rfl, h⟩
  | true =>
    simp only [if_true]
    cases h4 : inR a4 4 with
    | false =>
      cases vAsk W.V (a1 / 32) (a1 - a1 / 32 * 32) a2 with
      | false => exact ⟨_, _, _, rfl, rfl, h⟩
      | true => cases inR a3 20001 <;> exact ⟨_, _, _, rfl, rfl, h⟩
    | true =>
      cases ha : vAsk W.V (a1 / 32) (a1 - a1 / 32 * 32) a2 with
      | false => exact ⟨_, _, _, rfl, rfl, h⟩
      | true =>
        cases h3 : inR a3 20001 with
        | false => exact ⟨_, _, _, rfl, rfl, h⟩
        | true =>
          simp only [if_true, jn1]
          unfold vAsk at ha
          simp only [Bool.and_eq_true] at ha
          obtain ⟨e', he, ee⟩ := inR_nI ha.1.1
          obtain ⟨s', hs, es⟩ := inR_nI ha.1.2
          obtain ⟨d', hd, rfl⟩ := inR_nI ha.2
          obtain ⟨d2, hd2, rfl⟩ := inR_nI h3
          obtain ⟨w, hw4, rfl⟩ := inR_nI h4
          rw [es, ee]
          obtain ⟨S1, b1, b2, b3⟩ := c_ch1 hw hh.c (d := nI d') he hs
          obtain ⟨S2, g1, g2, g3⟩ := c_ch2 hw (cqf_W hh.c (cqf_of b3 (by decide) (by decide))) (d := nI d2) he hs
          have hq : cqf T.1 S2 := cqf_tr (cqf_of b3 (by decide) (by decide)) (cqf_of g3 (by decide) (by decide))
          have hL1 := cqf_l1 b2 g3
          have o1 := ch_cOK hw (e := e') (s := s') (d := nI d')
          have o2 := ch_cOK hw (e := e') (s := s') (d := nI d2)
          rw [b1, bp_some, g1, bp_some, c_cnt_l2l1 hV o1.m o1.le hL1 o2.m o2.le g2, c_cnt_l1l2 hV o2.m o2.le g2 o1.m o1.le hL1]
          obtain ⟨r1, lo1', lo2'⟩ := c_low_l2l1 hV o1.m o1.le hL1 o2.m o2.le g2
          obtain ⟨r2, lo3', lo4'⟩ := c_low_l1l2 hV o2.m o2.le g2 o1.m o1.le hL1
          rw [lo1', lo3']
          simp only [bp_some]
          have hcw : w = 0 ∨ w = 1 ∨ w = 2 ∨ w = 3 := by omega
          rcases hcw with rfl | rfl | rfl | rfl
          · obtain ⟨M1, M2, M3, M4, m1, m2, m3, m4, mq, mc, ml⟩ := m_two hw hR hh.r.ad hh.r.lf he hs (nI d') (nI d2)
            rw [if_neg (show ¬ 2 ≤ nI 0 by decide), m1, bp_some, m2, bp_some, if_neg (show ¬ 2 ≤ nI 0 by decide), m3, bp_some, m4, bp_some, if_pos (show nI 0 = 0 from rfl), if_pos (show nI 0 - nI 0 / 2 * 2 = 0 by decide), mc]
            exact ⟨_, _, _, rfl, rfl, RL_q h hq mq⟩
          · obtain ⟨M1, M2, M3, M4, m1, m2, m3, m4, mq, mc, ml⟩ := m_two hw hR hh.r.ad hh.r.lf he hs (nI d') (nI d2)
            rw [if_neg (show ¬ 2 ≤ nI 1 by decide), m1, bp_some, m2, bp_some, if_neg (show ¬ 2 ≤ nI 1 by decide), m3, bp_some, m4, bp_some, if_neg (show ¬ nI 1 = 0 by decide), if_pos (show nI 1 = 1 from rfl), if_neg (show ¬ nI 1 - nI 1 / 2 * 2 = 0 by decide), ml _ lo2']
            exact ⟨_, _, _, rfl, rfl, RL_q h hq mq⟩
          · obtain ⟨M1, M2, M3, M4, m1, m2, m3, m4, mq, mc, ml⟩ := m_two hw hR hh.r.ad hh.r.lf he hs (nI d2) (nI d')
            rw [if_pos (show 2 ≤ nI 2 by decide), m1, bp_some, m2, bp_some, if_pos (show 2 ≤ nI 2 by decide), m3, bp_some, m4, bp_some, if_neg (show ¬ nI 2 = 0 by decide), if_neg (show ¬ nI 2 = 1 by decide), if_pos (show nI 2 = 2 from rfl), if_pos (show nI 2 - nI 2 / 2 * 2 = 0 by decide), mc]
            exact ⟨_, _, _, rfl, rfl, RL_q h hq mq⟩
          · obtain ⟨M1, M2, M3, M4, m1, m2, m3, m4, mq, mc, ml⟩ := m_two hw hR hh.r.ad hh.r.lf he hs (nI d2) (nI d')
            rw [if_pos (show 2 ≤ nI 3 by decide), m1, bp_some, m2, bp_some, if_pos (show 2 ≤ nI 3 by decide), m3, bp_some, m4, bp_some, if_neg (show ¬ nI 3 = 0 by decide), if_neg (show ¬ nI 3 = 1 by decide), if_neg (show ¬ nI 3 = 2 by decide), if_neg (show ¬ nI 3 - nI 3 / 2 * 2 = 0 by decide), ml _ lo4']
            exact ⟨_, _, _, rfl, rfl, RL_q h hq mq⟩
/-- the chain without a mark -/
def chW (V : VW) (L : List Nat) (k e s : Nat) (d : Int32) : List Nat := (L.filter (vNot V (nI k) e s d)).foldl (chSt V e) []
theorem vNot_f {V : VW} {ab : Int32} {e s : Nat} {d : Int32} : ∀ k, vNot V ab e s d k = true → V.ev k = e ∧ vStand V k d = true := by
  intro k h
  simp only [vNot, vList, Bool.and_eq_true, decide_eq_true_eq] at h
  exact ⟨h.2.1.1, h.2.1.2⟩
theorem chW_cOK {W : WW} (hw : WOK W) {k e s : Nat} {d : Int32} : cOK W.V e d (chW W.V W.L k e s d) := fold_cOK hw.V hw.so (fun y hy => (hw.me y).mp hy) (by rw [hw.le]; exact Nat.le_refl _) vNot_f
theorem m_chW {W : WW} {M : MS} (hw : WOK W) (hR : tR W.V (M.2 0)) {k : Nat} (h21 : M.1 21 = -1) (h22 : M.1 22 = nI k) {e s : Nat} {d : Int32} (he : e < W.V.ne) (hs : s < 22) : ∃ M' : MS, f_X12_layChain M (nI e) (nI s) d = some M' ∧ linM M' (chW W.V W.L k e s d) ∧ fI [20] [18, 19] M M' := by
  have h60 := hw.V.n
  obtain ⟨M', h1, h2, h3, h4⟩ := m_layChain hw.V (M := M) (d := d) he hs hR hw.so hw.me hw.le
  have ef : W.L.filter (vSel W.V (M.1 21) (M.1 22) e s d) = W.L.filter (vNot W.V (nI k) e s d) := List.filter_congr (fun j hj => by
    have := (hw.me j).mp hj
    unfold vSel vNot vList
    rw [h21, h22, nI_m1 (by omega)]
    cases decide (W.V.ev j = e) <;> cases (nI j == nI k) <;> cases vStand W.V j d <;> cases vWith W.V j s <;> rfl)
  rw [ef] at h2 h3
  exact ⟨M', h1, ⟨h2, h3⟩, h4⟩
theorem q_without (T : XS) (M : MS) (a1 a2 a3 : Int32) (h : RLL T M) : ∃ (r : Int32) (T' : XS) (M' : MS), fo_without T a1 a2 a3 = some (r, T') ∧ fm_without M a1 a2 a3 = some (r, M') ∧ RLL T' M' := by
  obtain ⟨W, Ws, hh⟩ := id h
  have hV := hh.w.V
  have hR := hh.m.R
  have hw := hh.w
  unfold fo_without fm_without f_X11_without f_X12_without
  rw [c_mas hV hh.c.V, m_isMark hV hR, m_isScope, ite_le2 1 (by decide) (show (1 : Int32) = nI 1 from rfl), isIn_n (y := 1) 1 (by decide) rfl]
  simp only [bp_some, lt_eq]
  cases h1 : inR a1 W.V.n with
  | false => exact ⟨_, _, _, rfl, rfl, h⟩
  | true =>
    cases h2 : inR a2 22 with
    | false => exact ⟨_, _, _, rfl, rfl, h⟩
    | true =>
      cases h3 : inR a3 2 with
      | false => exact ⟨_, _, _, rfl, rfl, h⟩
      | true =>
        simp only [Bool.and_self, if_true]
        obtain ⟨k, hk, rfl⟩ := inR_nI h1
        obtain ⟨s, hs, rfl⟩ := inR_nI h2
        obtain ⟨w, hw3, rfl⟩ := inR_nI h3
        have kb := vk hV hk
        have he := kb.2.2.2.2.2.1
        obtain ⟨S2, g1, g2, g3, g4⟩ := c_fillChain_l2 hV (d := nI W.V.td) (ab := nI k) he hs hh.c.V (fun y hy => (hw.me y).mp hy) hw.le hh.c.o
        have g23 : linD S2 (chW W.V W.L k (W.V.ev k) s (nI W.V.td)) := ⟨g2, g3⟩
        have hq2 := cqf_of g4 (by decide) (by decide)
        have hW2 := cqf_W hh.c hq2
        obtain ⟨S1, b1, b2, b3⟩ := c_ch1 hw hW2 (d := nI W.V.td) he hs
        have hq1 := cqf_tr hq2 (cqf_of b3 (by decide) (by decide))
        have o1 := ch_cOK hw (e := W.V.ev k) (s := s) (d := nI W.V.td)
        have o2 := chW_cOK hw (k := k) (e := W.V.ev k) (s := s) (d := nI W.V.td)
        obtain ⟨M1, a1, a2, a3⟩ := m_ch hw hR hh.r.ad hh.r.lf (d := nI W.V.td) he hs
        obtain ⟨M2, n1, n2, n3⟩ := m_note hV o1.m o1.le a2
        have hf2 : fI [20] [18, 19, 23] M M2 := fI_tr (fI_tr fI_rf a3 (by decide) (by decide)) n2 (by decide) (by decide)
        have hR3 : tR W.V ((si M2 22 (nI k)).2 0) := by show tR W.V (M2.2 0); rw [hf2.2 0 (by decide)]; exact hR
        obtain ⟨M3, c1, c2, c3⟩ := m_chW hw (M := si M2 22 (nI k)) (k := k) hR3 (by show M2.1 21 = _; rw [hf2.1 21 (by decide)]; exact hh.r.ad) rfl (d := nI W.V.td) he hs
        have hf3 : fI [20, 22] [18, 19, 23] M M3 := fI_tr (fI_si (fI_tr fI_rf hf2 (by decide) (by decide)) (by decide)) c3 (by decide) (by decide)
        have hR4 : tR W.V ((si M3 22 (-1)).2 0) := by show tR W.V (M3.2 0); rw [hf3.2 0 (by decide)]; exact hR
        have c2' : linM (si M3 22 (-1)) (chW W.V W.L k (W.V.ev k) s (nI W.V.td)) := c2
        obtain ⟨M4, d1', d2', d3, d4⟩ := m_fresh hV (M := si M3 22 (-1)) (l1 := ch W.V W.L (W.V.ev k) s (nI W.V.td)) hR4 o2.m o2.le c2' (by
          have : (si M3 22 (-1)).2 23 = M2.2 23 := c3.2 23 (by decide)
          rw [this]; exact n3)
        have hmq : mqf M M4 := by
          have hf4 : fI [20, 22, 24, 25] [18, 19, 23] M M4 := fI_tr (fI_si (fI_tr fI_rf hf3 (by decide) (by decide)) (by decide)) d2' (by decide) (by decide)
          refine ⟨fun j hj => ?_, fun j hj => hf4.2 j (fun z => hj (List.mem_cons_of_mem _ z))⟩
          by_cases z : j = 22
          · subst z
            rw [d2'.1 22 (by decide)]
            exact hh.r.lf.symm
          · refine hf4.1 j (fun y => hj ?_)
            simp only [List.mem_cons, List.not_mem_nil, or_false] at y ⊢
            omega
        have e5 : f_X12_of (si M2 22 (nI k)) (nI k) 0 = some (nI (W.V.ev k)) := m_o0 hV hR3 hk
        have hl4 : linM M4 (chW W.V W.L k (W.V.ev k) s (nI W.V.td)) := ⟨by rw [d2'.1 20 (by decide)]; exact c2'.1, by rw [d2'.2 19 (by decide)]; exact c2'.2⟩
        have hR5 : tR W.V (M4.2 0) := by rw [d2'.2 0 (by decide)]; exact hR4
        have e13 : S2.2.1 13 k = nI (W.V.ev k) := hW2.V.ev k hk
        simp only [m_o0 hV hR hk, bp_some, chk_c4, m_A4 hR, a1, n1, e5, m_A4 hR3, c1, d1', m_rec hV hR5 o2.m o2.le hl4, chk_nI (show k < 60 by omega) (by decide), nI_clamp (show k < 2 ^ 31 by omega), hh.c.V.ev k hk, hh.c.V.td, g1, e13, hW2.V.td, b1, c_last2 hV hW2.V o2.m o2.le g23]
        have hcw : w = 0 ∨ w = 1 := by omega
        rcases hcw with rfl | rfl
        · rw [if_neg (show ¬ nI 0 = 1 by decide), if_pos (show nI 0 = 0 from rfl), c_cnt_l2l1 hV o1.m o1.le b2 o2.m o2.le (cqf_l2 g23 b3), bp_some, d3, frsh_len o2.m (srt_nodup o2.so)]
          exact ⟨_, _, _, rfl, rfl, RL_q h hq1 hmq⟩
        · rw [if_pos (show nI 1 = 1 from rfl), if_neg (show ¬ nI 1 = 0 by decide)]
          exact ⟨_, _, _, rfl, rfl, RL_q h hq2 hmq⟩
