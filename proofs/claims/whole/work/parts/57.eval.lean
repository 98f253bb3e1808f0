/-! the reference's formulas; what is good, points -/
theorem mc_num {c : Int32} (h0 : 0 ≤ c.toInt) (h1 : c.toInt ≤ 9999999) : mcode c = c ∧ ¬ 20000000 ≤ c ∧ ¬ 10000000 ≤ c := by
  refine ⟨if_pos h0, fun h => ?_, fun h => ?_⟩
  · rw [Int32.le_iff_toInt_le, show (20000000 : Int32).toInt = 20000000 from rfl] at h; omega
  · rw [Int32.le_iff_toInt_le, show (10000000 : Int32).toInt = 10000000 from rfl] at h; omega
theorem mc_let {c : Int32} (h : c ∈ lettersL) : ¬ 20000000 ≤ mcode c ∧ 10000000 ≤ mcode c ∧ mcode c - 10000000 = nmi (-c) := by
  unfold lettersL at h
  simp only [List.mem_cons, List.not_mem_nil, or_false] at h
  rcases h with rfl | rfl | rfl | rfl | rfl | rfl | rfl | rfl | rfl | rfl | rfl | rfl | rfl <;> decide
theorem m_worked {V : VW} {M : MS} {cs : List Int32} {base b e k : Nat} {fb : Bool} (hV : VOK V) (hR : tR V (M.2 0)) (hk : k < V.n) (hbe : b ≤ e) (he : e ≤ cs.length) (hbase : base + e ≤ 1177) (hcs : ∀ i, i < cs.length → M.2 0 (base + i) = mcode (cs.getD i 0)) (ht : tyL (tk cs b e) [] = some [fb]) : ∃ M', f_X12_worked M (nI (base + b)) (nI (base + e)) (nI k) = some (fval V k (nI (V.pa k)) cs b e, M') ∧ fI [] [17] M M' := by
  unfold f_X12_worked L_X12_worked_6
  refine lq3 (Q := fun o => ∃ M', o = some (fval V k (nI (V.pa k)) cs b e, M') ∧ fI [] [17] M M') (base + e) (fun j M1 x => ∃ i st ts, j = base + i ∧ b ≤ i ∧ fI [] [17] M M1 ∧ x = nI st.length ∧ stk (M1.2 17) st ∧ tyR ts st ∧ st.length ≤ 60 ∧ tyL (tk cs i e) ts = some [fb] ∧ (tk cs i e).foldl (ev1 V k (nI (V.pa k))) st = (tk cs b e).foldl (ev1 V k (nI (V.pa k))) []) ?_ (base + b) rfl (by omega) (FU_gt (by omega)) ⟨b, [], [], rfl, Nat.le_refl _, fI_rf, rfl, fun i h => (by cases h), trivial, by decide, ht, rfl⟩
  rintro j M1 x kk hj ⟨i, st, ts, rfl, hbi, hg, rfl, g2, g3, g4, g5, g6⟩ hr
  have hR1 : tR V (M1.2 0) := by rw [hg.2 0 (by decide)]; exact hR
  by_cases c : i < e
  · have hic : i < cs.length := by omega
    have hr := fun a b' h1 => hr a b' (show base + i < base + e by omega) h1
    rw [if_neg (fun h => by rw [nI_leI (by omega) (by omega)] at h; omega), chk_nI (by omega) (by decide), nI_clamp (by omega), hg.2 0 (by decide), hcs i hic, lt_eq]
    rw [tk_cons c he] at g5 g6
    rw [List.foldl_cons] at g6
    generalize cs.getD i 0 = cc at g5 g6
    have hty : ∃ ts', ty1 ts cc = some ts' ∧ tyL (tk cs (i + 1) e) ts' = some [fb] := by
      unfold tyL at g5
      cases hz : ty1 ts cc with
      | none => rw [hz] at g5; cases g5
      | some ts' => rw [hz] at g5; exact ⟨ts', rfl, g5⟩
    obtain ⟨ts', q1, q2⟩ := hty
    have q3 := ty_step (V := V) (k := k) (p := nI (V.pa k)) q1 g3
    have hlen := tyR_len g3
    have hnext : ∀ (M2 : MS) (st2 : List Int32), fI [] [17] M M2 → stk (M2.2 17) st2 → st2.length ≤ 60 → ev1 V k (nI (V.pa k)) st cc = st2 → ∃ M', kk M2 (nI st2.length) (nI (base + i + 1)) = some (fval V k (nI (V.pa k)) cs b e, M') ∧ fI [] [17] M M' := by
      intro M2 st2 y1 y2 y3 y4
      rw [y4] at q3 g6
      exact hr M2 _ ⟨i + 1, st2, ts', rfl, by omega, y1, rfl, y2, q3, y3, q2, g6⟩
    rcases ty1_c q1 with ⟨h0, h1, h2, rfl⟩ | ⟨h0, h1, h2, rfl⟩ | ⟨rfl, r, rfl, rfl⟩ | hop
    · have hm := mc_num h0 h1
      rw [hm.1, if_neg hm.2.1]
      simp only [jn1, lt_eq]
      rw [if_neg hm.2.2, chk_nI (by omega) (by decide), nI_clamp (by omega), nI_1, nI_1]
      have := hnext (sa M1 17 (upd (M1.2 17) st.length cc)) (cc :: st) (fI_sa hg (by decide)) (stk_push g2) (by rw [List.length_cons]; omega) (by unfold ev1; rw [if_pos h0])
      exact this
    · have hm := mc_let h1
      rw [if_neg hm.1]
      simp only [jn1, lt_eq]
      rw [if_pos hm.2.1, hm.2.2, m_name hV hR1 hk h1, bp_some, chk_nI (by omega) (by decide), nI_clamp (by omega), nI_1, nI_1]
      exact hnext (sa M1 17 (upd (M1.2 17) st.length (vthing V k (nI (V.pa k)) (-cc)))) (vthing V k (nI (V.pa k)) (-cc) :: st) (fI_sa hg (by decide)) (stk_push g2) (by rw [List.length_cons]; omega) (by unfold ev1; rw [if_neg h0, if_pos h1])
    · obtain ⟨x, xs, rfl, h1, h2⟩ := tyR_1 g3
      rw [show mcode (-33) = 20000033 by decide, if_pos (by decide), if_pos rfl, List.length_cons, nI_pred]
      rw [List.length_cons] at g4
      rw [chk_nI (by omega) (by decide), chk_nI (by omega) (by decide), nI_clamp (by omega), stk_top g2, lt_eq, lt_eq, nI_1]
      have hx : 1 - x = if x = 0 then 1 else 0 := by
        rcases h1 rfl with rfl | rfl <;> decide
      rw [hx]
      exact hnext (sa M1 17 (upd (M1.2 17) xs.length (if x = 0 then 1 else 0))) ((if x = 0 then 1 else 0) :: xs) (fI_sa hg (by decide)) (stk_push (stk_pop g2)) (by rw [List.length_cons]; omega) (by unfold ev1; rw [if_neg (by decide), if_neg (by decide), if_pos rfl])
    · have hop2 : (∃ a b r, ts = a :: b :: r) ∧ 20000000 ≤ mcode cc ∧ ¬ mcode cc = 20000033 ∧ mcode cc - 20000000 = -cc ∧ ¬ 0 ≤ cc.toInt ∧ cc ∉ lettersL ∧ ¬ cc = -33 := by
        rcases hop with ⟨hc, r, rfl, _⟩ | ⟨hc, a, b, r, rfl, _⟩ | ⟨hc, a, b, r, rfl, _⟩
        · exact ⟨⟨_, _, _, rfl⟩, by rcases hc with rfl | rfl <;> decide⟩
        · exact ⟨⟨_, _, _, rfl⟩, by rcases hc with rfl | rfl | rfl <;> decide⟩
        · exact ⟨⟨_, _, _, rfl⟩, by rcases hc with rfl | rfl | rfl | rfl <;> decide⟩
      obtain ⟨⟨a, b', r, rfl⟩, o1, o2, o3, o4, o5, o6⟩ := hop2
      obtain ⟨y, ys, rfl, h1, h2⟩ := tyR_1 g3
      obtain ⟨x, xs, rfl, h3, h4⟩ := tyR_1 h2
      rw [if_pos o1, if_neg o2, List.length_cons, pk_m1, lt_eq, List.length_cons, nI_pred]
      rw [List.length_cons, List.length_cons] at g4
      have ty : M1.2 17 (xs.length + 1) = y := stk_top g2
      have tx : M1.2 17 xs.length = x := stk_top (stk_pop g2)
      rw [chk_nI (by omega) (by decide), chk_nI (by omega) (by decide), nI_clamp (by omega), nI_clamp (by omega), ty, tx, o3, jo_m, bp_some, chk_nI (by omega) (by decide), lt_eq, lt_eq, nI_1]
      exact hnext (sa M1 17 (upd (M1.2 17) xs.length (jo (-cc) x y))) (jo (-cc) x y :: xs) (fI_sa hg (by decide)) (stk_push (stk_pop (stk_pop g2))) (by rw [List.length_cons]; omega) (by unfold ev1; rw [if_neg o4, if_neg o5, if_neg o6])
  · have : i = e := by omega
    subst this
    rw [tk_nil] at g5 g6
    have hts : ts = [fb] := Option.some.inj g5
    subst hts
    obtain ⟨x, xs, rfl, h1, h2⟩ := tyR_1 g3
    cases xs with
    | cons z zs => exact absurd h2 (by unfold tyR; exact id)
    | nil =>
      have tx : M1.2 17 (0 : Int32).toNatClampNeg = x := stk_top g2
      rw [if_pos ((nI_leI (by omega) (by omega)).mpr (by omega))]
      dsimp only
      rw [chk_of (i := 0) (k := 0) rfl (by decide) (by decide), tx]
      refine ⟨M1, ?_, hg⟩
      unfold fval
      rw [← g6]; rfl
def wnd (V : VW) (k : Nat) : Int32 := if V.e1 (V.ev k) = -1 then -1 else if V.wi k ≤ V.e1 (V.ev k) then -1 else 8
def fvN (W : WW) (k : Nat) (p : Int32) (i : Nat) : Int32 := fval W.V k p W.nc (bgn W.ne i) (W.ne.getD i 0)
def lkP (W : WW) (k : Nat) (p r : Int32) : Prop := (∃ i, i < W.ne.length ∧ r = nI i ∧ fvN W k p i = 0 ∧ ∀ j, j < i → ¬ fvN W k p j = 0) ∨ ((∀ j, j < W.ne.length → ¬ fvN W k p j = 0) ∧ r = wnd W.V k)
theorem lkP_un {W : WW} {k : Nat} {p r r' : Int32} (h : lkP W k p r) (h' : lkP W k p r') : r = r' := by
  rcases h with ⟨i, h1, e, h2, h3⟩ | ⟨h1, e⟩
  · rcases h' with ⟨i', h1', e', h2', h3'⟩ | ⟨h1', _⟩
    · by_cases c : i < i'
      · exact absurd h2 (h3' i c)
      · by_cases c2 : i' < i
        · exact absurd h2' (h3 i' c2)
        · rw [e, e', show i = i' by omega]
    · exact absurd h2 (h1' i h1)
  · rcases h' with ⟨i', h1', _, h2', _⟩ | ⟨_, e'⟩
    · exact absurd h2' (h1 i' h1')
    · rw [e, e']
theorem lkP_ex (W : WW) (k : Nat) (p : Int32) : ∃ r, lkP W k p r := by
  by_cases h : ∃ i, i < W.ne.length ∧ fvN W k p i = 0
  · obtain ⟨i, ⟨h1, h2⟩, h3⟩ := pk_least (fun i => i < W.ne.length ∧ fvN W k p i = 0) h
    exact ⟨nI i, Or.inl ⟨i, h1, rfl, h2, fun j hj z => h3 j hj ⟨by omega, z⟩⟩⟩
  · exact ⟨_, Or.inr ⟨fun j hj z => h ⟨j, hj, z⟩, rfl⟩⟩
noncomputable def lack (W : WW) (k : Nat) (p : Int32) : Int32 := Classical.epsilon (lkP W k p)
theorem lack_is (W : WW) (k : Nat) (p : Int32) : lkP W k p (lack W k p) := Classical.epsilon_spec (lkP_ex W k p)
theorem c_lack {W : WW} {S : CS} (hw : WOK W) (hS : tW W S) {k : Nat} (hk : k < W.V.n) (p : Int32) : ∃ S', f_X11_lackOf S (nI k) p = some (lack W k p, S') ∧ gI [24] [48] S S' := by
  have hV := hw.V
  have h8 := hw.n.n8
  have kb := vk hV hk
  unfold f_X11_lackOf L_X11_lackOf_2
  refine lq2 (Q := fun o => ∃ S', o = some (lack W k p, S') ∧ gI [24] [48] S S') W.ne.length (fun i S1 => gI [24] [48] S S1 ∧ ∀ j, j < i → ¬ fvN W k p j = 0) ?_ 0 rfl (Nat.zero_le _) (FU_gt (by omega)) ⟨gI_rf, fun j hj => by omega⟩
  rintro i S1 kk hi ⟨hg, hp⟩ hr
  have hS1 := cqf_W hS (cqf_of hg (by decide) (by decide))
  have epn : f_X4_parts_nf S1 = some (nI W.ne.length) := by unfold f_X4_parts_nf; rw [hS1.nl]
  rw [epn, bp_some]
  by_cases c : i < W.ne.length
  · obtain ⟨S2, g1, g2⟩ := c_val_nf (p := p) hV hS1.V hk hS1.nl hS1.ne hS1.ncl hS1.nc h8 hw.n.c c (hw.n.b i c) (hw.n.t i c)
    have hg2 : gI [24] [48] S S2 := gI_tr hg g2 (by decide) (by decide)
    rw [if_neg (fun h => by rw [nI_leI (by omega) (by omega)] at h; omega), g1, bw_some, show fval W.V k p W.nc (bgn W.ne i) (W.ne.getD i 0) = fvN W k p i from rfl]
    by_cases z : fvN W k p i = 0
    · rw [if_pos z]
      exact ⟨S2, by rw [lkP_un (lack_is W k p) (Or.inl ⟨i, c, rfl, z, hp⟩)], hg2⟩
    · rw [if_neg z, lt_eq, nI_1]
      refine hr S2 c ⟨hg2, fun j hj => ?_⟩
      by_cases y : j = i
      · subst y; exact z
      · exact hp j (by omega)
  · have : i = W.ne.length := by omega
    subst this
    rw [if_pos ((nI_leI (by omega) (by omega)).mpr (by omega))]
    have hl : lack W k p = wnd W.V k := lkP_un (lack_is W k p) (Or.inr ⟨hp, rfl⟩)
    rw [hl]
    unfold f_X1_isWindTooStrong wnd
    dsimp only
    rw [chk_nI (by omega) (by decide), nI_clamp (by omega), hS1.V.ev k hk, chk_nI (by omega) (by decide), nI_clamp (by omega), hS1.V.e1 _ kb.2.2.2.2.2.1, lt_eq, chk_nI (by omega) (by decide), hS1.V.wi k hk]
    by_cases z : W.V.e1 (W.V.ev k) = -1
    · rw [if_pos z, if_pos z, bp_some]; exact ⟨S1, rfl, hg⟩
    · rw [if_neg z, if_neg z]
      by_cases y : W.V.wi k ≤ W.V.e1 (W.V.ev k)
      · rw [if_pos y, if_pos y, bp_some]; exact ⟨S1, rfl, hg⟩
      · rw [if_neg y, if_neg y, bp_some]; exact ⟨S1, rfl, hg⟩
theorem A_bgn {W : WW} {A : Nat → Int32} (h : tA W A) {i : Nat} (hi : i < W.ne.length) : A (726 + i) = nI (bgn W.ne i) ∧ A (726 + i + 1) = nI (W.ne.getD i 0) := by
  refine ⟨?_, by rw [show 726 + i + 1 = 727 + i by omega]; exact h.nb i hi⟩
  unfold bgn
  cases i with
  | zero => rw [if_pos rfl]; exact h.n0
  | succ j => rw [if_neg (by omega), show 726 + (j + 1) = 727 + j by omega, show j + 1 - 1 = j from rfl]; exact h.nb j (by omega)
theorem m_why {W : WW} {M : MS} (hw : WOK W) (hA : tA W (M.2 0)) {k : Nat} (hk : k < W.V.n) : ∃ M', f_X12_whyNotGood M (nI k) = some (lack W k (nI (W.V.pa k)), M') ∧ fI [] [17] M M' := by
  have hV := hw.V
  have h8 := hw.n.n8
  have kb := vk hV hk
  unfold f_X12_whyNotGood L_X12_whyNotGood_2
  refine lq2 (Q := fun o => ∃ M', o = some (lack W k (nI (W.V.pa k)), M') ∧ fI [] [17] M M') W.ne.length (fun i M1 => fI [] [17] M M1 ∧ ∀ j, j < i → ¬ fvN W k (nI (W.V.pa k)) j = 0) ?_ 0 rfl (Nat.zero_le _) (FU_gt (by omega)) ⟨fI_rf, fun j hj => by omega⟩
  rintro i M1 kk hi ⟨hg, hp⟩ hr
  have hA1 : tA W (M1.2 0) := by rw [hg.2 0 (by decide)]; exact hA
  have e725 : M1.2 0 (725 : Int32).toNatClampNeg = nI W.ne.length := hA1.nm
  rw [chk_of (i := 725) (k := 725) rfl (by decide) (by decide), e725]
  by_cases c : i < W.ne.length
  · have hb := A_bgn hA1 c
    have hbb := hw.n.b i c
    have h310 := hw.n.c
    obtain ⟨M2, g1, g2⟩ := m_worked (base := 735) (k := k) hV hA1.R hk hbb.1 hbb.2 (by omega) hA1.nc (hw.n.t i c)
    have hg2 : fI [] [17] M M2 := fI_tr hg g2 (by decide) (by decide)
    have e1 : (726 : Int32) + nI i = nI (726 + i) := by rw [show (726 : Int32) = nI 726 from rfl, nI_add]
    rw [if_neg (fun h => by rw [nI_leI (by omega) (by omega)] at h; omega), e1, nI_1, chk_nI (by omega) (by decide), chk_nI (by omega) (by decide), nI_clamp (by omega), nI_clamp (by omega), hb.1, hb.2, show (735 : Int32) = nI 735 from rfl, nI_add, nI_add, g1, bw_some, show fval W.V k (nI (W.V.pa k)) W.nc (bgn W.ne i) (W.ne.getD i 0) = fvN W k (nI (W.V.pa k)) i from rfl]
    by_cases z : fvN W k (nI (W.V.pa k)) i = 0
    · rw [if_pos z]
      exact ⟨M2, by rw [lkP_un (lack_is W k (nI (W.V.pa k))) (Or.inl ⟨i, c, rfl, z, hp⟩)], hg2⟩
    · rw [if_neg z, lt_eq, nI_1]
      refine hr M2 c ⟨hg2, fun j hj => ?_⟩
      by_cases y : j = i
      · subst y; exact z
      · exact hp j (by omega)
  · have : i = W.ne.length := by omega
    subst this
    rw [if_pos ((nI_leI (by omega) (by omega)).mpr (by omega))]
    have hl : lack W k (nI (W.V.pa k)) = wnd W.V k := lkP_un (lack_is W k _) (Or.inr ⟨hp, rfl⟩)
    rw [hl]
    dsimp only
    rw [m_ev1 hV hA1.R hk, bp_some, m_o6 hV hA1.R hk, bp_some]
    unfold wnd
    by_cases z : W.V.e1 (W.V.ev k) = -1
    · rw [if_pos z, if_pos z]; exact ⟨M1, rfl, hg⟩
    · rw [if_neg z, if_neg z, bp_some]
      by_cases y : W.V.wi k ≤ W.V.e1 (W.V.ev k)
      · rw [if_pos y, if_pos y]; exact ⟨M1, rfl, hg⟩
      · rw [if_neg y, if_neg y]; exact ⟨M1, rfl, hg⟩
theorem q_good (T : XS) (M : MS) (a1 : Int32) (h : RLL T M) : ∃ (r : Int32) (T' : XS) (M' : MS), fo_good T a1 = some (r, T') ∧ fm_good M a1 = some (r, M') ∧ RLL T' M' := by
  obtain ⟨W, Ws, hh⟩ := id h
  have hV := hh.w.V
  unfold fo_good fm_good f_X11_good f_X12_good
  rw [c_hasMark hV hh.c.V, m_isMark hV hh.m.R, bp_some, bp_some]
  cases h1 : inR a1 W.V.n with
  | false => exact ⟨_, _, _, rfl, rfl, h⟩
  | true =>
    obtain ⟨k, hk, rfl⟩ := inR_nI h1
    have kb := vk hV hk
    obtain ⟨S', c1, c2⟩ := c_lack hh.w hh.c hk (nI (W.V.pa k))
    obtain ⟨M', d1, d2⟩ := m_why hh.w hh.m hk
    rw [if_pos rfl, if_pos rfl, chk_nI (by omega) (by decide), nI_clamp (by omega), hh.c.V.pa k hk, c1, d1]
    exact ⟨_, _, _, rfl, rfl, RL_q h (cqf_of c2 (by decide) (by decide)) (mqf_of d2 (by decide) (by decide))⟩
/-- counts of marks -/
def isB (W : WW) (w k : Nat) : Prop := if w = 8 then vStand W.V k (nI W.V.td) = true else if w = 9 then W.V.sk k ≠ -1 else if w = 10 then W.V.ra k ≠ -1 else lack W k (nI (W.V.pa k)) = -1
theorem m_such {W : WW} {M : MS} (hw : WOK W) (hA : tA W (M.2 0)) {k w : Nat} (hk : k < W.V.n) (hw8 : 8 ≤ w) (hw11 : w ≤ 11) : ∃ b M', f_X12_isSuch M (nI k) (nI w) = some (b, M') ∧ fI [] [17] M M' ∧ (b = true ↔ isB W w k) := by
  have hV := hw.V
  have hR := hA.R
  unfold f_X12_isSuch isB
  have hcw : w = 8 ∨ w = 9 ∨ w = 10 ∨ w = 11 := by omega
  rcases hcw with rfl | rfl | rfl | rfl
  · rw [if_pos (show nI 8 = 8 from rfl), chk_c4, m_A4 hR, m_stand hV hR hk, bp_some, if_pos rfl]
    exact ⟨_, M, rfl, fI_rf, Iff.rfl⟩
  · rw [if_neg (show ¬ nI 9 = 8 by decide), if_pos (show nI 9 = 9 from rfl), m_o10 hV hR hk, bp_some, if_neg (show ¬ (9 : Nat) = 8 by decide), if_pos (show (9 : Nat) = 9 from rfl)]
    by_cases c : W.V.sk k = -1
    · rw [if_pos c]; exact ⟨_, M, rfl, fI_rf, ⟨fun h => (by cases h), fun h => absurd c h⟩⟩
    · rw [if_neg c]; exact ⟨_, M, rfl, fI_rf, ⟨fun _ => c, fun _ => rfl⟩⟩
  · rw [if_neg (show ¬ nI 10 = 8 by decide), if_neg (show ¬ nI 10 = 9 by decide), if_pos (show nI 10 = 10 from rfl), m_o9 hV hR hk, bp_some, if_neg (show ¬ (10 : Nat) = 8 by decide), if_neg (show ¬ (10 : Nat) = 9 by decide), if_pos (show (10 : Nat) = 10 from rfl)]
    by_cases c : W.V.ra k = -1
    · rw [if_pos c]; exact ⟨_, M, rfl, fI_rf, ⟨fun h => (by cases h), fun h => absurd c h⟩⟩
    · rw [if_neg c]; exact ⟨_, M, rfl, fI_rf, ⟨fun _ => c, fun _ => rfl⟩⟩
  · obtain ⟨M', d1, d2⟩ := m_why hw hA hk
    rw [if_neg (show ¬ nI 11 = 8 by decide), if_neg (show ¬ nI 11 = 9 by decide), if_neg (show ¬ nI 11 = 10 by decide), d1, bw_some, if_neg (show ¬ (11 : Nat) = 8 by decide), if_neg (show ¬ (11 : Nat) = 9 by decide), if_neg (show ¬ (11 : Nat) = 10 by decide)]
    by_cases c : lack W k (nI (W.V.pa k)) = -1
    · rw [if_pos c]; exact ⟨_, M', rfl, d2, ⟨fun _ => c, fun _ => rfl⟩⟩
    · rw [if_neg c]; exact ⟨_, M', rfl, d2, ⟨fun h => (by cases h), fun h => absurd h c⟩⟩
theorem m_isc {W : WW} {M : MS} (hw : WOK W) (hA : tA W (M.2 0)) {w : Nat} (hw8 : 8 ≤ w) (hw11 : w ≤ 11) : ∃ M', L_X12_is_101 (nI w) (fun S17 x18 => some (x18, S17)) FU M 0 0 = some (nI (selP (isB W w) W.V.n).length, M') ∧ fI [] [17] M M' := by
  have hn := hw.V.n
  unfold L_X12_is_101
  refine lq3 (Q := fun o => ∃ M', o = some (nI (selP (isB W w) W.V.n).length, M') ∧ fI [] [17] M M') W.V.n (fun k M1 x => fI [] [17] M M1 ∧ x = nI (selP (isB W w) k).length) ?_ 0 rfl (Nat.zero_le _) (FU_gt (by omega)) ⟨fI_rf, rfl⟩
  rintro k M1 x kk hk ⟨hg, rfl⟩ hr
  have hA1 : tA W (M1.2 0) := by rw [hg.2 0 (by decide)]; exact hA
  rw [chk_c3, m_A3 hA1.R]
  by_cases c : k < W.V.n
  · obtain ⟨b, M2, g1, g2, g3⟩ := m_such hw hA1 c hw8 hw11
    have hg2 : fI [] [17] M M2 := fI_tr hg g2 (by decide) (by decide)
    rw [if_neg (fun h => by rw [nI_leI (by omega) (by omega)] at h; omega), g1, bw_some]
    simp only [jn1, lt_eq, nI_1, Int32.add_zero]
    by_cases z : b = true
    · rw [if_pos z]; exact hr M2 _ c ⟨hg2, by rw [selP_y (g3.mp z)]⟩
    · rw [if_neg z]; exact hr M2 _ c ⟨hg2, by rw [selP_n (fun y => z (g3.mpr y))]⟩
  · have : k = W.V.n := by omega
    subst this
    rw [if_pos ((nI_leI (by omega) (by omega)).mpr (by omega))]
    exact ⟨M1, rfl, hg⟩
theorem c_cstand {W : WW} {S : CS} (hw : WOK W) (hS : tW W S) : f_X1_countStanding S (nI W.V.td) = some (nI (selP (isB W 8) W.V.n).length) := by
  have hn := hw.V.n
  unfold f_X1_countStanding L_X1_countStanding_4
  refine lq2 (Q := fun o => o = some (nI (selP (isB W 8) W.V.n).length)) W.V.n (fun k x => x = nI (selP (isB W 8) k).length) ?_ 0 rfl (Nat.zero_le _) (FU_gt (by omega)) rfl
  rintro k x kk hk rfl hr
  by_cases c : k < W.V.n
  · rw [hS.V.n, if_neg (fun h => by rw [nI_leI (by omega) (by omega)] at h; omega), c_stand hw.V hS.V c, bp_some]
    simp only [jn1, lt_eq, nI_1, Int32.add_zero]
    have e : isB W 8 k ↔ vStand W.V k (nI W.V.td) = true := by unfold isB; rw [if_pos rfl]
    by_cases z : vStand W.V k (nI W.V.td) = true
    · rw [if_pos z]; exact hr _ c (by rw [selP_y (e.mpr z)])
    · rw [if_neg z]; exact hr _ c (by rw [selP_n (fun y => z (e.mp y))])
  · have : k = W.V.n := by omega
    subst this
    rw [hS.V.n, if_pos ((nI_leI (by omega) (by omega)).mpr (by omega))]
theorem c_cstruck {W : WW} {S : CS} (hw : WOK W) (hS : tW W S) : f_X1_countStruck S = some (nI (selP (isB W 9) W.V.n).length) := by
  have hn := hw.V.n
  unfold f_X1_countStruck L_X1_countStruck_4
  refine lq2 (Q := fun o => o = some (nI (selP (isB W 9) W.V.n).length)) W.V.n (fun k x => x = nI (selP (isB W 9) k).length) ?_ 0 rfl (Nat.zero_le _) (FU_gt (by omega)) rfl
  rintro k x kk hk rfl hr
  by_cases c : k < W.V.n
  · rw [hS.V.n, if_neg (fun h => by rw [nI_leI (by omega) (by omega)] at h; omega), chk_nI (by omega) (by decide), nI_clamp (by omega), hS.V.sk k c]
    simp only [jn1, lt_eq, nI_1, Int32.add_zero]
    have e : isB W 9 k ↔ W.V.sk k ≠ -1 := by unfold isB; rw [if_neg (by decide), if_pos rfl]
    by_cases z : W.V.sk k = -1
    · rw [if_pos z]; exact hr _ c (by rw [selP_n (fun y => e.mp y z)])
    · rw [if_neg z]; exact hr _ c (by rw [selP_y (e.mpr z)])
  · have : k = W.V.n := by omega
    subst this
    rw [hS.V.n, if_pos ((nI_leI (by omega) (by omega)).mpr (by omega))]
theorem c_crat {W : WW} {S : CS} (hw : WOK W) (hS : tW W S) : f_X1_countRatified S = some (nI (selP (isB W 10) W.V.n).length) := by
  have hn := hw.V.n
  unfold f_X1_countRatified L_X1_countRatified_4
  refine lq2 (Q := fun o => o = some (nI (selP (isB W 10) W.V.n).length)) W.V.n (fun k x => x = nI (selP (isB W 10) k).length) ?_ 0 rfl (Nat.zero_le _) (FU_gt (by omega)) rfl
  rintro k x kk hk rfl hr
  by_cases c : k < W.V.n
  · rw [hS.V.n, if_neg (fun h => by rw [nI_leI (by omega) (by omega)] at h; omega), chk_nI (by omega) (by decide), nI_clamp (by omega), hS.V.ra k c]
    simp only [jn1, lt_eq, nI_1, Int32.add_zero]
    have e : isB W 10 k ↔ W.V.ra k ≠ -1 := by unfold isB; rw [if_neg (by decide), if_neg (by decide), if_pos rfl]
    by_cases z : W.V.ra k = -1
    · rw [if_pos z]; exact hr _ c (by rw [selP_n (fun y => e.mp y z)])
    · rw [if_neg z]; exact hr _ c (by rw [selP_y (e.mpr z)])
  · have : k = W.V.n := by omega
    subst this
    rw [hS.V.n, if_pos ((nI_leI (by omega) (by omega)).mpr (by omega))]
theorem c_cgood {W : WW} {S : CS} (hw : WOK W) (hS : tW W S) : ∃ S', f_X11_countGood S = some (nI (selP (isB W 11) W.V.n).length, S') ∧ gI [24] [48] S S' := by
  have hn := hw.V.n
  unfold f_X11_countGood L_X11_countGood_4
  refine lq3 (Q := fun o => ∃ S', o = some (nI (selP (isB W 11) W.V.n).length, S') ∧ gI [24] [48] S S') W.V.n (fun k S1 x => gI [24] [48] S S1 ∧ x = nI (selP (isB W 11) k).length) ?_ 0 rfl (Nat.zero_le _) (FU_gt (by omega)) ⟨gI_rf, rfl⟩
  rintro k S1 x kk hk ⟨hg, rfl⟩ hr
  have hS1 := cqf_W hS (cqf_of hg (by decide) (by decide))
  by_cases c : k < W.V.n
  · obtain ⟨S2, g1, g2⟩ := c_lack hw hS1 c (nI (W.V.pa k))
    have hg2 : gI [24] [48] S S2 := gI_tr hg g2 (by decide) (by decide)
    rw [hS1.V.n, if_neg (fun h => by rw [nI_leI (by omega) (by omega)] at h; omega), chk_nI (by omega) (by decide), nI_clamp (by omega), hS1.V.pa k c, g1, bw_some]
    simp only [lt_eq, nI_1]
    have e : isB W 11 k ↔ lack W k (nI (W.V.pa k)) = -1 := by unfold isB; rw [if_neg (by decide), if_neg (by decide), if_neg (by decide)]
    by_cases z : lack W k (nI (W.V.pa k)) = -1
    · rw [if_pos z]; exact hr S2 _ c ⟨hg2, by rw [selP_y (e.mpr z)]⟩
    · rw [if_neg z]; exact hr S2 _ c ⟨hg2, by rw [selP_n (fun y => z (e.mp y))]⟩
  · have : k = W.V.n := by omega
    subst this
    rw [hS1.V.n, if_pos ((nI_leI (by omega) (by omega)).mpr (by omega))]
    exact ⟨S1, rfl, hg⟩
set_option maxRecDepth 100000 in
theorem q_is (T : XS) (M : MS) (a1 : Int32) (h : RLL T M) : ∃ (r : Int32) (T' : XS) (M' : MS), fo_is T a1 = some (r, T') ∧ fm_is M a1 = some (r, M') ∧ RLL T' M' := by
  obtain ⟨W, Ws, hh⟩ := id h
  have hR := hh.m.R
  have hS := hh.c.V
  by_cases ha : inR a1 12 = true
  · obtain ⟨w, hw, rfl⟩ := inR_nI ha
    by_cases c8 : w < 8
    · have hcw : w = 0 ∨ w = 1 ∨ w = 2 ∨ w = 3 ∨ w = 4 ∨ w = 5 ∨ w = 6 ∨ w = 7 := by omega
      obtain ⟨n, t1, t2, t3, _⟩ := hh.r.tl
      have e725 : M.2 0 (725 : Int32).toNatClampNeg = nI W.ne.length := hh.m.nm
      have epn : nI (T.1.2.2 47) = nI W.ne.length := by rw [hh.c.nl]
      have m0 : M.2 0 (nI 0).toNatClampNeg = nI W.V.ne := hR.ne
      have m1 : M.2 0 (nI 1).toNatClampNeg = nI W.V.np := hR.np
      have m2 : M.2 0 (nI 2).toNatClampNeg = nI W.V.na := hR.na
      have m3 : M.2 0 (nI 3).toNatClampNeg = nI W.V.n := hR.n
      unfold fo_is fm_is f_X11_is f_X12_is f_X4_parts_nf
      simp only [jn0, bp_some, chk_c4, m_A4 hR, hS.ne, hS.np, hS.na, hS.n, hS.td, hh.dc, hh.dm, t2, t3, epn, e725, chk_of (N := 1177) (i := 725) (k := 725) rfl (by decide) (by decide)]
      rcases hcw with rfl | rfl | rfl | rfl | rfl | rfl | rfl | rfl
      · rw [if_pos (show nI 0 = 0 from rfl), if_pos (show nI 0 = 0 from rfl), chk_nI (by decide) (by decide), m0]; exact ⟨_, _, _, rfl, rfl, h⟩
      · rw [if_neg (show ¬ nI 1 = 0 by decide), if_pos (show nI 1 = 1 from rfl), if_neg (show ¬ nI 1 = 0 by decide), if_pos (show nI 1 = 1 from rfl), chk_nI (by decide) (by decide), m1]; exact ⟨_, _, _, rfl, rfl, h⟩
      · rw [if_neg (show ¬ nI 2 = 0 by decide), if_neg (show ¬ nI 2 = 1 by decide), if_pos (show nI 2 = 2 from rfl), if_neg (show ¬ nI 2 = 0 by decide), if_neg (show ¬ nI 2 = 1 by decide), if_pos (show nI 2 = 2 from rfl), chk_nI (by decide) (by decide), m2]; exact ⟨_, _, _, rfl, rfl, h⟩
      · rw [if_neg (show ¬ nI 3 = 0 by decide), if_neg (show ¬ nI 3 = 1 by decide), if_neg (show ¬ nI 3 = 2 by decide), if_pos (show nI 3 = 3 from rfl), if_neg (show ¬ nI 3 = 0 by decide), if_neg (show ¬ nI 3 = 1 by decide), if_neg (show ¬ nI 3 = 2 by decide), if_pos (show nI 3 = 3 from rfl), chk_nI (by decide) (by decide), m3]; exact ⟨_, _, _, rfl, rfl, h⟩
      · exact ⟨_, _, _, rfl, rfl, h⟩
      · exact ⟨_, _, _, rfl, rfl, h⟩
      · exact ⟨_, _, _, rfl, rfl, h⟩
      · exact ⟨_, _, _, rfl, rfl, h⟩
    · obtain ⟨M', d1, d2⟩ := m_isc hh.w hh.m (w := w) (by omega) (by omega)
      have hm : fm_is M (nI w) = L_X12_is_101 (nI w) (fun S17 x18 => some (x18, S17)) FU M 0 0 := by
        have hcw : w = 8 ∨ w = 9 ∨ w = 10 ∨ w = 11 := by omega
        unfold fm_is f_X12_is
        simp only [jn0]
        rcases hcw with rfl | rfl | rfl | rfl
        · rw [if_neg (by decide), if_neg (by decide), if_neg (by decide), if_neg (by decide), if_neg (by decide), if_neg (by decide), if_neg (by decide), if_neg (by decide), if_pos (by decide)]
        · rw [if_neg (by decide), if_neg (by decide), if_neg (by decide), if_neg (by decide), if_neg (by decide), if_neg (by decide), if_neg (by decide), if_neg (by decide), if_neg (by decide), if_pos (by decide)]
        · rw [if_neg (by decide), if_neg (by decide), if_neg (by decide), if_neg (by decide), if_neg (by decide), if_neg (by decide), if_neg (by decide), if_neg (by decide), if_neg (by decide), if_neg (by decide), if_pos (by decide)]
        · rw [if_neg (by decide), if_neg (by decide), if_neg (by decide), if_neg (by decide), if_neg (by decide), if_neg (by decide), if_neg (by decide), if_neg (by decide), if_neg (by decide), if_neg (by decide), if_neg (by decide), if_pos (by decide)]
      rw [hm, d1]
      have hc : ∃ S', fo_is T (nI w) = some (nI (selP (isB W w) W.V.n).length, (S', T.2)) ∧ gI [24] [48] T.1 S' := by
        have hcw : w = 8 ∨ w = 9 ∨ w = 10 ∨ w = 11 := by omega
        unfold fo_is f_X11_is
        rw [hS.td]
        rcases hcw with rfl | rfl | rfl | rfl
        · rw [if_neg (by decide), if_neg (by decide), if_neg (by decide), if_neg (by decide), if_neg (by decide), if_neg (by decide), if_neg (by decide), if_neg (by decide), if_pos (by decide), c_cstand hh.w hh.c]
          exact ⟨_, rfl, gI_rf⟩
        · rw [if_neg (by decide), if_neg (by decide), if_neg (by decide), if_neg (by decide), if_neg (by decide), if_neg (by decide), if_neg (by decide), if_neg (by decide), if_neg (by decide), if_pos (by decide), c_cstruck hh.w hh.c]
          exact ⟨_, rfl, gI_rf⟩
        · rw [if_neg (by decide), if_neg (by decide), if_neg (by decide), if_neg (by decide), if_neg (by decide), if_neg (by decide), if_neg (by decide), if_neg (by decide), if_neg (by decide), if_neg (by decide), if_pos (by decide), c_crat hh.w hh.c]
          exact ⟨_, rfl, gI_rf⟩
        · obtain ⟨S', e1, e2⟩ := c_cgood hh.w hh.c
          rw [if_neg (by decide), if_neg (by decide), if_neg (by decide), if_neg (by decide), if_neg (by decide), if_neg (by decide), if_neg (by decide), if_neg (by decide), if_neg (by decide), if_neg (by decide), if_neg (by decide), if_pos (by decide), e1]
          exact ⟨_, rfl, e2⟩
      obtain ⟨S', e1, e2⟩ := hc
      rw [e1]
      exact ⟨_, _, _, rfl, rfl, RL_q h (cqf_of e2 (by decide) (by decide)) (mqf_of d2 (by decide) (by decide))⟩
  · have hn := inR_ne ha (by decide)
    have n0 : ¬ a1 = 0 := hn 0 (by decide)
    have n1 : ¬ a1 = 1 := hn 1 (by decide)
    have n2 : ¬ a1 = 2 := hn 2 (by decide)
    have n3 : ¬ a1 = 3 := hn 3 (by decide)
    have n4 : ¬ a1 = 4 := hn 4 (by decide)
    have n5 : ¬ a1 = 5 := hn 5 (by decide)
    have n6 : ¬ a1 = 6 := hn 6 (by decide)
    have n7 : ¬ a1 = 7 := hn 7 (by decide)
    have n8 : ¬ a1 = 8 := hn 8 (by decide)
    have n9 : ¬ a1 = 9 := hn 9 (by decide)
    have n10 : ¬ a1 = 10 := hn 10 (by decide)
    have n11 : ¬ a1 = 11 := hn 11 (by decide)
    unfold fo_is fm_is f_X11_is f_X12_is
    simp only [jn0]
    rw [if_neg n0, if_neg n1, if_neg n2, if_neg n3, if_neg n4, if_neg n5, if_neg n6, if_neg n7, if_neg n8, if_neg n9, if_neg n10, if_neg n11, if_neg n0, if_neg n1, if_neg n2, if_neg n3, if_neg n4, if_neg n5, if_neg n6, if_neg n7, if_neg n8, if_neg n9, if_neg n10, if_neg n11]
    exact ⟨_, _, _, rfl, rfl, h⟩
