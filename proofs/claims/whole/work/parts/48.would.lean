/-! would, since, holding -/
theorem L_split {W : WW} (hw : WOK W) {k : Nat} (hk : k < W.V.n) : ∃ i0, i0 < W.L.length ∧ W.L.getD i0 0 = k ∧ W.L = W.L.take i0 ++ k :: W.L.drop (i0 + 1) ∧ k ∉ W.L.take i0 ∧ k ∉ W.L.drop (i0 + 1) := by
  obtain ⟨i, hi, e⟩ := mem_ix ((hw.me k).mpr hk)
  have hs : W.L = W.L.take i ++ k :: W.L.drop (i + 1) := by
    have h1 : k = W.L[i] := by rw [← e, List.getD_eq_getElem?_getD, List.getElem?_eq_getElem hi]; rfl
    rw [h1, ← List.drop_eq_getElem_cons hi, List.take_append_drop]
  have hd := srt_nodup hw.so
  rw [hs] at hd
  obtain ⟨d1, d2, d3⟩ := List.nodup_append.mp hd
  refine ⟨i, hi, e, hs, fun h => d3 k h k (by simp) rfl, (List.nodup_cons.mp d2).1⟩
def nbA (V : VW) (p : List Nat) (k s : Nat) (d : Int32) : Bool := p.all (fun j => !(vList V j (V.ev k) s d && vBetM V j k))
theorem nbA_t {V : VW} {p : List Nat} {k s : Nat} {d : Int32} : nbA V p k s d = true ↔ ∀ j, j ∈ p → vList V j (V.ev k) s d = true → vBetM V j k = false := by
  unfold nbA
  rw [List.all_eq_true]
  constructor
  · intro h j hj hl
    have := h j hj
    rw [hl] at this
    simpa using this
  · intro h j hj
    cases hl : vList V j (V.ev k) s d with
    | false => simp
    | true => rw [h j hj hl]; simp
theorem c_fba {W : WW} {S : CS} (hw : WOK W) (hS : tW W S) {k s i0 : Nat} {d : Int32} (hk : k < W.V.n) (hs : s < 22) (hi0 : i0 < W.L.length) (he0 : W.L.getD i0 0 = k) (hp : k ∉ W.L.take i0) : ∃ r, f_X1_firstBetterAhead S (nI k) (nI s) d = some r ∧ ((r = -1 ∧ nbA W.V (W.L.take i0) k s d = true) ∨ ∃ j, j ∈ W.L.take i0 ∧ r = nI j ∧ vList W.V j (W.V.ev k) s d = true ∧ vBetM W.V j k = true) := by
  have hV := hw.V
  have hn := hV.n
  have hle := hw.le
  have kb := vk hV hk
  unfold f_X1_firstBetterAhead L_X1_firstBetterAhead_3
  refine lq1 (Q := fun o => ∃ r, o = some r ∧ ((r = -1 ∧ nbA W.V (W.L.take i0) k s d = true) ∨ ∃ j, j ∈ W.L.take i0 ∧ r = nI j ∧ vList W.V j (W.V.ev k) s d = true ∧ vBetM W.V j k = true)) i0 (fun i => ∀ j, j ∈ W.L.take i → vList W.V j (W.V.ev k) s d = true → vBetM W.V j k = false) ?_ 0 rfl (Nat.zero_le _) (FU_gt (by omega)) (fun j hj => by simp at hj)
  intro i kk hi hI hr
  have hil : i < W.L.length := by omega
  have hx := (hw.me _).mp (getD_mem hil)
  have xb := vk hV hx
  rw [hS.V.n, if_neg (fun h => by rw [nI_leI (by omega) (by omega)] at h; omega), chk_nI (by omega) (by decide), nI_clamp (by omega), hS.o i hil]
  by_cases c : i < i0
  · have hm : W.L.getD i 0 ∈ W.L.take i0 := by
      have : (W.L.take i0).getD i 0 = W.L.getD i 0 := by rw [List.getD_eq_getElem?_getD, List.getElem?_take, if_pos c, List.getD_eq_getElem?_getD]
      rw [← this]
      exact getD_mem (by rw [List.length_take]; omega)
    have hne : W.L.getD i 0 ≠ k := fun z => hp (by rw [← z]; exact hm)
    rw [if_neg (fun h => hne ((nI_eq (by omega) (by omega)).mp h)), chk_nI (by omega) (by decide), lt_eq, chk_nI (by omega) (by decide), nI_clamp (by omega), hS.V.ev k hk, c_listed hV hS.V hx kb.2.2.2.2.2.1 hs, bp_some, c_better hV hS.V hx hk, bp_some]
    simp only [lt_eq, nI_1]
    have hr := hr c
    rw [take_s hil] at hr
    cases hl : vList W.V (W.L.getD i 0) (W.V.ev k) s d with
    | false =>
      rw [if_neg (by decide)]
      refine hr ?_
      intro j hj hlj
      rcases List.mem_append.mp hj with hj | hj
      · exact hI j hj hlj
      · rw [List.mem_singleton.mp hj, hl] at hlj; cases hlj
    | true =>
      rw [if_pos rfl]
      cases hb : vBetM W.V (W.L.getD i 0) k with
      | true => rw [if_pos rfl]; exact ⟨_, rfl, Or.inr ⟨_, hm, rfl, hl, hb⟩⟩
      | false =>
        rw [if_neg (by decide)]
        refine hr ?_
        intro j hj hlj
        rcases List.mem_append.mp hj with hj | hj
        · exact hI j hj hlj
        · rw [List.mem_singleton.mp hj]; exact hb
  · have : i = i0 := by omega
    subst this
    rw [if_pos (by rw [he0])]
    exact ⟨_, rfl, Or.inl ⟨rfl, nbA_t.mpr hI⟩⟩
/-- a mark in a chain of some of the marks -/
theorem in_fold {W : WW} {k e i0 : Nat} {f : Nat → Bool} (hs : W.L = W.L.take i0 ++ k :: W.L.drop (i0 + 1)) (hp : k ∉ W.L.take i0) (hr : k ∉ W.L.drop (i0 + 1)) : k ∈ (W.L.filter f).foldl (chSt W.V e) [] ↔ f k = true ∧ ∀ j, j ∈ W.L.take i0 → f j = true → vBet W.V e (nI (W.V.va j)) (nI (W.V.va k)) = false := by
  by_cases c : f k = true
  · have : W.L.filter f = (W.L.take i0).filter f ++ k :: (W.L.drop (i0 + 1)).filter f := by
      conv => lhs; rw [hs]
      rw [List.filter_append, List.filter_cons_of_pos c]
    rw [this, ch_in (fun h => hp (List.mem_filter.mp h).1) (fun h => hr (List.mem_filter.mp h).1)]
    constructor
    · intro h; exact ⟨c, fun j hj hf => h j (List.mem_filter.mpr ⟨hj, hf⟩)⟩
    · intro h j hj; exact h.2 j (List.mem_filter.mp hj).1 (List.mem_filter.mp hj).2
  · constructor
    · intro h
      have := (ch_fold (V := W.V) (e := e) (W.L.filter f) [] List.Pairwise.nil).2
      rw [List.nil_append] at this
      exact absurd (List.mem_filter.mp (this.subset h)).2 c
    · intro h; exact absurd h.1 c
theorem in_ch {W : WW} {k s i0 : Nat} {d : Int32} (hs : W.L = W.L.take i0 ++ k :: W.L.drop (i0 + 1)) (hp : k ∉ W.L.take i0) (hr : k ∉ W.L.drop (i0 + 1)) : k ∈ ch W.V W.L (W.V.ev k) s d ↔ vWith W.V k s = true ∧ vStand W.V k d = true ∧ nbA W.V (W.L.take i0) k s d = true := by
  unfold ch
  rw [in_fold hs hp hr, nbA_t]
  have e1 : vList W.V k (W.V.ev k) s d = true ↔ vStand W.V k d = true ∧ vWith W.V k s = true := by
    unfold vList
    simp
  rw [e1]
  constructor
  · intro h
    refine ⟨h.1.2, h.1.1, fun j hj hl => ?_⟩
    have := h.2 j hj hl
    unfold vBetM
    rw [(vList_f j hl).1]
    exact this
  · intro h
    refine ⟨⟨h.2.1, h.1⟩, fun j hj hl => ?_⟩
    have := h.2.2 j hj hl
    unfold vBetM at this
    rw [(vList_f j hl).1] at this
    exact this
theorem m_chA {W : WW} {M : MS} (hw : WOK W) (hR : tR W.V (M.2 0)) {k i0 : Nat} (hk : k < W.V.n) (hs0 : W.L = W.L.take i0 ++ k :: W.L.drop (i0 + 1)) (hp : k ∉ W.L.take i0) (hr : k ∉ W.L.drop (i0 + 1)) (h21 : M.1 21 = nI k) (h22 : M.1 22 = -1) {s : Nat} {d : Int32} (hs : s < 22) : ∃ M' : MS, f_X12_layChain M (nI (W.V.ev k)) (nI s) d = some M' ∧ fI [20] [18, 19] M M' ∧ f_X12_isLinked M' (nI k) = some (vWith W.V k s && nbA W.V (W.L.take i0) k s d) := by
  have h60 := hw.V.n
  have he := hw.V.ev k hk
  obtain ⟨M', h1, h2, h3, h4⟩ := m_layChain hw.V (M := M) (d := d) he hs hR hw.so hw.me hw.le
  refine ⟨M', h1, h4, ?_⟩
  have hsub := (ch_fold (V := W.V) (e := W.V.ev k) (W.L.filter (vSel W.V (M.1 21) (M.1 22) (W.V.ev k) s d)) [] List.Pairwise.nil).2
  rw [List.nil_append] at hsub
  have hm : ∀ y, y ∈ (W.L.filter (vSel W.V (M.1 21) (M.1 22) (W.V.ev k) s d)).foldl (chSt W.V (W.V.ev k)) [] → y < W.V.n := fun y hy => (hw.me y).mp (List.mem_filter.mp (hsub.subset hy)).1
  have hlen : ((W.L.filter (vSel W.V (M.1 21) (M.1 22) (W.V.ev k) s d)).foldl (chSt W.V (W.V.ev k)) []).length ≤ 60 := by
    have := hsub.length_le
    have := List.length_filter_le (vSel W.V (M.1 21) (M.1 22) (W.V.ev k) s d) W.L
    have := hw.le
    omega
  rw [m_linked hw.V hm hlen ⟨h2, h3⟩ (by omega)]
  congr 1
  have hiff := in_fold (e := W.V.ev k) (f := vSel W.V (M.1 21) (M.1 22) (W.V.ev k) s d) hs0 hp hr
  have hself : vSel W.V (M.1 21) (M.1 22) (W.V.ev k) s d k = vWith W.V k s := by
    unfold vSel
    rw [h21, h22, nI_m1 (by omega)]
    simp
  have hoth : ∀ j, j ∈ W.L.take i0 → vSel W.V (M.1 21) (M.1 22) (W.V.ev k) s d j = vList W.V j (W.V.ev k) s d := by
    intro j hj
    have hjn := (hw.me j).mp (List.mem_of_mem_take hj)
    have hne : j ≠ k := fun z => hp (by rw [← z]; exact hj)
    have : (nI j == nI k) = false := beq_eq_false_iff_ne.mpr (fun z => hne ((nI_eq (by omega) (by omega)).mp z))
    unfold vSel vList
    rw [h21, h22, nI_m1 (by omega), this]
    simp
  rw [hself] at hiff
  cases hwk : vWith W.V k s with
  | false =>
    rw [hwk] at hiff
    rw [decide_eq_false (fun h => by have := (hiff.mp h).1; cases this)]; rfl
  | true =>
    rw [hwk] at hiff
    cases hnb : nbA W.V (W.L.take i0) k s d with
    | true =>
      rw [decide_eq_true (hiff.mpr ⟨rfl, fun j hj hf => ?_⟩)]
      · rfl
      · rw [hoth j hj] at hf
        have := nbA_t.mp hnb j hj hf
        unfold vBetM at this
        rw [(vList_f j hf).1] at this
        exact this
    | false =>
      rw [decide_eq_false]
      · rfl
      · intro h
        have : nbA W.V (W.L.take i0) k s d = true := nbA_t.mpr (fun j hj hl => by
          have := (hiff.mp h).2 j hj (by rw [hoth j hj]; exact hl)
          unfold vBetM
          rw [(vList_f j hl).1]
          exact this)
        rw [hnb] at this; cases this
def woF (V : VW) (p : List Nat) (k : Nat) (d : Int32) (s : Nat) (a : Int32) : Int32 := if (vWith V k s && nbA V p k s d) = true then a + 1 else a
theorem q_would (T : XS) (M : MS) (a1 : Int32) (h : RLL T M) : ∃ (r : Int32) (T' : XS) (M' : MS), fo_would T a1 = some (r, T') ∧ fm_would M a1 = some (r, M') ∧ RLL T' M' := by
  obtain ⟨W, Ws, hh⟩ := id h
  have hV := hh.w.V
  have hR := hh.m.R
  have hw := hh.w
  unfold fo_would fm_would f_X11_would f_X12_would
  rw [c_hasMark hV hh.c.V, m_isMark hV hR]
  simp only [bp_some]
  cases h1 : inR a1 W.V.n with
  | false => exact ⟨_, _, _, rfl, rfl, h⟩
  | true =>
    obtain ⟨k, hk, rfl⟩ := inR_nI h1
    have kb := vk hV hk
    rw [if_pos rfl, if_pos rfl, chk_nI (by omega) (by decide), nI_clamp (by omega), hh.c.V.ra k hk, m_o9 hV hR hk, bp_some]
    by_cases c : W.V.ra k = -1
    · rw [if_pos c, if_pos c, lt_eq]
      obtain ⟨i0, hi0, he0, hs0, hp, hr0⟩ := L_split hw hk
      have hc : L_X11_would_30 T.1 (nI k) (fun x15 => some x15) FU 0 0 = some (itN (woF W.V (W.L.take i0) k (nI W.V.td)) 0 22) := by
        unfold L_X11_would_30
        refine lf1 (woF W.V (W.L.take i0) k (nI W.V.td)) 0 0 22 (FU_gt (by omega)) ?_ ?_ rfl rfl (Nat.zero_le _)
        · intro s kk _ hs
          obtain ⟨r, f1, f2⟩ := c_fba hw hh.c hk hs hi0 he0 hp (d := nI W.V.td)
          rw [if_neg (fun h => by rw [show (21 : Int32) = nI 21 from rfl, nI_ltI (by omega) (by omega)] at h; omega), c_with hV hh.c.V hk hs, hh.c.V.td, f1]
          simp only [bp_some, lt_eq, nI_1]
          generalize itN _ 0 s = a
          unfold woF
          cases hwk : vWith W.V k s with
          | false => rfl
          | true =>
            rcases f2 with ⟨rfl, g⟩ | ⟨j, hj, rfl, g1, g2⟩
            · rw [g]; rfl
            · have hjn := (hw.me j).mp (List.mem_of_mem_take hj)
              have : nbA W.V (W.L.take i0) k s (nI W.V.td) = false := by
                cases z : nbA W.V (W.L.take i0) k s (nI W.V.td) with
                | false => rfl
                | true => have := nbA_t.mp z j hj g1; rw [g2] at this; cases this
              rw [this, if_pos rfl, if_neg (nI_nm1 (by omega))]; rfl
        · intro kk
          rw [if_pos (by decide)]
      rw [hc]
      have hm : ∃ M' : MS, L_X12_would_30 (nI k) (fun S21 x22 => lt (si S21 21 (-1)) fun S23 => some (x22, S23)) FU (si M 21 (nI k)) 0 0 = some (itN (woF W.V (W.L.take i0) k (nI W.V.td)) 0 22, si M' 21 (-1)) ∧ fI [20] [18, 19] (si M 21 (nI k)) M' := by
        unfold L_X12_would_30
        refine lq3 (Q := fun o => ∃ M' : MS, o = some (itN (woF W.V (W.L.take i0) k (nI W.V.td)) 0 22, si M' 21 (-1)) ∧ fI [20] [18, 19] (si M 21 (nI k)) M') 22 (fun s M1 x => fI [20] [18, 19] (si M 21 (nI k)) M1 ∧ x = itN (woF W.V (W.L.take i0) k (nI W.V.td)) 0 s) ?_ 0 rfl (Nat.zero_le _) (FU_gt (by omega)) ⟨fI_rf, rfl⟩
        rintro s M1 x kk hs ⟨hf, rfl⟩ hr
        by_cases cs : s < 22
        · have hR1 : tR W.V (M1.2 0) := by rw [hf.2 0 (by decide)]; exact hR
          obtain ⟨M2, g1, g2, g3⟩ := m_chA hw hR1 hk hs0 hp hr0 (by rw [hf.1 21 (by decide)]; rfl) (by rw [hf.1 22 (by decide)]; exact hh.r.lf) cs (d := nI W.V.td)
          rw [if_neg (fun h => by rw [show (22 : Int32) = nI 22 from rfl, nI_leI (by omega) (by omega)] at h; omega), m_o0 hV hR1 hk, bp_some, chk_c4, m_A4 hR1, g1, bp_some, g3, bp_some]
          simp only [jn1, lt_eq, nI_1]
          have hr := fun a b hab => hr a b cs hab
          have hst : itN (woF W.V (W.L.take i0) k (nI W.V.td)) 0 (s + 1) = woF W.V (W.L.take i0) k (nI W.V.td) s (itN (woF W.V (W.L.take i0) k (nI W.V.td)) 0 s) := rfl
          have hfr : fI [20] [18, 19] (si M 21 (nI k)) M2 := fI_tr hf g2 (by decide) (by decide)
          by_cases cc : (vWith W.V k s && nbA W.V (W.L.take i0) k s (nI W.V.td)) = true
          · rw [if_pos cc]
            refine hr M2 _ ⟨hfr, ?_⟩
            rw [hst]; unfold woF; rw [if_pos cc]
          · rw [if_neg cc]
            refine hr M2 _ ⟨hfr, ?_⟩
            rw [hst, Int32.add_zero]
            exact (if_neg cc).symm
        · have : s = 22 := by omega
          subst this
          rw [if_pos (by decide)]
          exact ⟨M1, rfl, hf⟩
      obtain ⟨M', e1, e2⟩ := hm
      rw [e1]
      refine ⟨_, _, _, rfl, rfl, RL_q h cqf_rf ?_⟩
      refine ⟨fun j hj => ?_, fun j hj => e2.2 j (fun z => hj (by simp only [List.mem_cons, List.not_mem_nil, or_false] at z ⊢; omega))⟩
      by_cases z : j = 21
      · subst z; exact hh.r.ad.symm
      · show up M'.1 21 (-1) j = _
        rw [up_ne z, e2.1 j (fun y => hj (by simp only [List.mem_cons, List.not_mem_nil, or_false] at y ⊢; omega))]
        exact up_ne z
    · rw [if_neg c, if_neg c]
      exact ⟨_, _, _, rfl, rfl, h⟩
