/-! personal, list, rank, stands -/
def psF (V : VW) (a e : Nat) (d : Int32) (acc : List Nat) (k : Nat) : List Nat := if V.ath k = a then (if vList V k e 0 d = true then (if acc = [] ∨ vBet V e (nI (V.va k)) (nI (V.va (lst acc))) = true then acc ++ [k] else acc) else acc) else acc
theorem psF_gro {V : VW} {a e : Nat} {d : Int32} : gro (psF V a e d) (fun k => V.ev k = e) := by
  intro acc k
  unfold psF
  by_cases c1 : V.ath k = a
  · rw [if_pos c1]
    by_cases c2 : vList V k e 0 d = true
    · rw [if_pos c2]
      by_cases c3 : acc = [] ∨ vBet V e (nI (V.va k)) (nI (V.va (lst acc))) = true
      · rw [if_pos c3]
        exact Or.inr ⟨by rw [List.length_append]; rfl, (vList_f k c2).1, fun y => by rw [List.mem_append, List.mem_singleton]; exact Or.comm⟩
      · rw [if_neg c3]; exact Or.inl rfl
    · rw [if_neg c2]; exact Or.inl rfl
  · rw [if_neg c1]; exact Or.inl rfl
theorem lst_at {l : List Nat} {t : Nat} (h : l.length = t + 1) : lst l = l.getD t 0 := by unfold lst; rw [h]; rfl
theorem c_personal {W : WW} {S : CS} (hw : WOK W) (hS : tW W S) {a e : Nat} {d : Int32} (he : e < W.V.ne) (ha : a < 16) : ∃ S', f_X7_fillWithPersonal_l1 S (nI a) (nI e) d = some S' ∧ linC S' (W.L.foldl (psF W.V a e d) []) ∧ gI [21] [37] S S' := by
  have hV := hw.V
  have hn := hV.n
  have hle := hw.le
  have hb := gro_b (psF_gro (V := W.V) (a := a) (e := e) (d := d)) W.L
  unfold f_X7_fillWithPersonal_l1 L_X7_fillWithPersonal_l1_8
  rw [lt_eq]
  refine lq2 (Q := fun o => ∃ S', o = some S' ∧ linC S' (W.L.foldl (psF W.V a e d) []) ∧ gI [21] [37] S S') W.V.n (fun i S1 => linC S1 ((W.L.take i).foldl (psF W.V a e d) []) ∧ gI [21] [37] S S1) ?_ 0 rfl (Nat.zero_le _) (FU_gt (by omega)) ⟨⟨rfl, fun i h => by cases h⟩, gI_ci gI_rf (by decide)⟩
  rintro i S1 kk hi ⟨hc, hg⟩ hr
  have hS1 := cqf_W hS (cqf_of hg (by decide) (by decide))
  by_cases ci' : i < W.V.n
  · have hil : i < W.L.length := by omega
    have hx := (hw.me _).mp (getD_mem hil)
    have xb := vk hV hx
    have hacc := hb i
    rw [gro_s hil] at hr
    have hs0 : (0 : Int32) = nI 0 := rfl
    have hl := c_listed hV hS1.V (d := d) hx he (show 0 < 22 by decide)
    rw [← hs0] at hl
    generalize (W.L.take i).foldl (psF W.V a e d) [] = acc at hc hacc hr
    have happ : f_X7_append_l1 S1 (nI (W.L.getD i 0)) = some (ci (ca S1 37 (upd (S1.2.1 37) acc.length (nI (W.L.getD i 0)))) 21 ((ca S1 37 (upd (S1.2.1 37) acc.length (nI (W.L.getD i 0)))).1 21 + 1)) := by
      unfold f_X7_append_l1
      rw [hc.1, if_neg (fun h => by rw [show (60 : Int32) = nI 60 from rfl, nI_leI (by omega) (by omega)] at h; omega), chk_nI (by omega) (by decide), nI_clamp (by omega)]
      rfl
    rw [hS1.V.n, if_neg (fun h => by rw [nI_leI (by omega) (by omega)] at h; omega), chk_nI (by omega) (by decide), nI_clamp (by omega), hS1.o i hil, lt_eq, chk_nI (by omega) (by decide), nI_clamp (by omega), hS1.V.ath _ hx, hl, bp_some, hc.1]
    simp only [lt_eq, nI_1, jn0, happ, bp_some]
    have hr := fun a h1 h2 => hr a ci' ⟨h1, h2⟩
    unfold psF at hr
    by_cases c1 : W.V.ath (W.L.getD i 0) = a
    · rw [if_pos (by rw [c1])]
      rw [if_pos c1] at hr
      by_cases c2 : vList W.V (W.L.getD i 0) e 0 d = true
      · rw [if_pos c2]
        rw [if_pos c2] at hr
        have hadd : (acc = [] ∨ vBet W.V e (nI (W.V.va (W.L.getD i 0))) (nI (W.V.va (lst acc))) = true) → ∃ S', kk (ci (ca S1 37 (upd (S1.2.1 37) acc.length (nI (W.L.getD i 0)))) 21 ((ca S1 37 (upd (S1.2.1 37) acc.length (nI (W.L.getD i 0)))).1 21 + 1)) (nI (i + 1)) = some S' ∧ linC S' (W.L.foldl (psF W.V a e d) []) ∧ gI [21] [37] S S' := by
          intro hz
          refine hr _ ?_ (gI_ci (gI_ca hg (by decide)) (by decide))
          rw [if_pos hz]
          exact ⟨by show S1.1 21 + 1 = _; rw [hc.1, nI_1, List.length_append]; rfl, hold_push hc.2⟩
        rcases len_cases acc with hz | ⟨t, ht, hne⟩
        · rw [if_pos (show nI acc.length = 0 by rw [hz]; rfl)]
          exact hadd (Or.inl hz)
        · have hym := getD_mem (l := acc) (i := t) (by omega)
          have hyt : acc.getD t 0 < W.V.n := (hw.me _).mp (List.mem_of_mem_take (hacc.2 _ hym).1)
          rw [ht, if_neg (nI_ne0 (by omega) (by omega)), nI_pred, chk_nI (by omega) (by decide), nI_clamp (by omega), hc.2 t (by omega), c_better hV hS1.V hx hyt, bp_some]
          rw [ht] at hadd
          have eb : vBetM W.V (W.L.getD i 0) (acc.getD t 0) = vBet W.V e (nI (W.V.va (W.L.getD i 0))) (nI (W.V.va (lst acc))) := by unfold vBetM; rw [(vList_f _ c2).1, lst_at ht]
          rw [eb]
          by_cases c3 : vBet W.V e (nI (W.V.va (W.L.getD i 0))) (nI (W.V.va (lst acc))) = true
          · rw [if_pos c3]; exact hadd (Or.inr c3)
          · rw [if_neg c3]
            rw [if_neg (fun h => h.elim hne c3)] at hr
            exact hr S1 hc hg
      · rw [if_neg c2]
        rw [if_neg c2] at hr
        exact hr S1 hc hg
    · rw [if_neg (fun h => c1 ((nI_eq (by omega) (by omega)).mp h))]
      rw [if_neg c1] at hr
      exact hr S1 hc hg
  · have : i = W.V.n := by omega
    subst this
    rw [hS1.V.n, if_pos ((nI_leI (by omega) (by omega)).mpr (by omega))]
    rw [List.take_of_length_le (by omega)] at hc
    exact ⟨S1, rfl, hc, hg⟩
theorem m_personal {W : WW} {M : MS} (hw : WOK W) (hR : tR W.V (M.2 0)) {a e : Nat} {d : Int32} (he : e < W.V.ne) (ha : a < 16) (h20 : M.1 20 = 0) (h18 : hold (M.2 18) (W.L.filter (fun k => vList W.V k e 0 d))) {kk0 : MS → Option (Int32 × MS)} : ∃ M', L_X12_personal_53 (nI a) (nI e) (nI (W.L.filter (fun k => vList W.V k e 0 d)).length) kk0 FU M 0 = kk0 M' ∧ linM M' (W.L.foldl (psF W.V a e d) []) ∧ fI [20] [19] M M' := by
  have hV := hw.V
  have hn := hV.n
  have hle := hw.le
  have hlen := List.length_filter_le (fun k => vList W.V k e 0 d) W.L
  have hm : ∀ z, z ∈ W.L.filter (fun k => vList W.V k e 0 d) → z < W.V.n ∧ vList W.V z e 0 d = true := fun z hz => ⟨(hw.me z).mp (List.mem_filter.mp hz).1, (List.mem_filter.mp hz).2⟩
  have hfold : W.L.foldl (psF W.V a e d) [] = (W.L.filter (fun k => vList W.V k e 0 d)).foldl (psF W.V a e d) [] := by
    rw [List.foldl_filter]
    congr 1
    funext acc k
    by_cases c : vList W.V k e 0 d = true
    · rw [if_pos c]
    · rw [if_neg c]; unfold psF; rw [if_neg c]; split <;> rfl
  rw [hfold]
  generalize W.L.filter (fun k => vList W.V k e 0 d) = l at *
  have hb := gro_b (psF_gro (V := W.V) (a := a) (e := e) (d := d)) l
  unfold L_X12_personal_53
  refine lq2 (Q := fun o => ∃ M', o = kk0 M' ∧ linM M' (l.foldl (psF W.V a e d) []) ∧ fI [20] [19] M M') l.length (fun i M1 => linM M1 ((l.take i).foldl (psF W.V a e d) []) ∧ fI [20] [19] M M1) ?_ 0 rfl (Nat.zero_le _) (FU_gt (by omega)) ⟨⟨h20, fun i h => by cases h⟩, fI_rf⟩
  rintro i M1 kk hi ⟨hc, hg⟩ hr
  have hR1 : tR W.V (M1.2 0) := by rw [hg.2 0 (by decide)]; exact hR
  by_cases ci' : i < l.length
  · have hx := hm _ (getD_mem ci')
    have xb := vk hV hx.1
    have hacc := hb i
    have h18i : M1.2 18 i = nI (l.getD i 0) := by rw [hg.2 18 (by decide)]; exact h18 i ci'
    rw [gro_s ci'] at hr
    generalize hacq : (l.take i).foldl (psF W.V a e d) [] = acc at hc hacc hr
    rw [if_neg (fun h => by rw [nI_leI (by omega) (by omega)] at h; omega), chk_nI (by omega) (by decide), nI_clamp (by omega), h18i, m_o1 hV hR1 hx.1, bp_some, hc.1]
    simp only [lt_eq, nI_1, jn0, chk_nI (show i < 60 by omega) (by decide), chk_nI (show acc.length < 60 by omega) (by decide), nI_clamp (show acc.length < 2 ^ 31 by omega), m_o5 hV hR1 hx.1, bp_some]
    have hr := fun a h1 h2 => hr a ci' ⟨h1, h2⟩
    unfold psF at hr
    rw [if_pos hx.2] at hr
    by_cases c1 : W.V.ath (l.getD i 0) = a
    · rw [if_pos (by rw [c1])]
      rw [if_pos c1] at hr
      have hadd : (acc = [] ∨ vBet W.V e (nI (W.V.va (l.getD i 0))) (nI (W.V.va (lst acc))) = true) → ∃ M', kk (si (sa M1 19 (upd (M1.2 19) acc.length (nI (l.getD i 0)))) 20 ((sa M1 19 (upd (M1.2 19) acc.length (nI (l.getD i 0)))).1 20 + 1)) (nI (i + 1)) = kk0 M' ∧ linM M' (l.foldl (psF W.V a e d) []) ∧ fI [20] [19] M M' := by
        intro hz
        refine hr _ ?_ (fI_si (fI_sa hg (by decide)) (by decide))
        rw [if_pos hz]
        exact ⟨by show M1.1 20 + 1 = _; rw [hc.1, nI_1, List.length_append]; rfl, hold_push hc.2⟩
      have haccm : ∀ y, y ∈ acc → y < W.V.n := fun y hy => (hm y (List.mem_of_mem_take (hacc.2 y hy).1)).1
      rcases len_cases acc with hz | ⟨t, ht, hne⟩
      · rw [if_pos (show nI acc.length ≤ 0 by rw [hz]; decide)]
        exact hadd (Or.inl hz)
      · rw [if_neg (nI_nle (by omega) (by omega)), ht, nI_pred, m_value hV hR1 haccm (by omega) hc (by omega), bp_some, m_better hV hR1 he, bp_some, ← lst_at ht]
        rw [ht] at hadd
        by_cases c3 : vBet W.V e (nI (W.V.va (l.getD i 0))) (nI (W.V.va (lst acc))) = true
        · rw [if_pos c3]; exact hadd (Or.inr c3)
        · rw [if_neg c3]
          rw [if_neg (fun h => h.elim hne c3)] at hr
          exact hr M1 hc hg
    · rw [if_neg (fun h => c1 ((nI_eq (by omega) (by omega)).mp h))]
      rw [if_neg c1] at hr
      exact hr M1 hc hg
  · have : i = l.length := by omega
    subst this
    rw [if_pos ((nI_leI (by omega) (by omega)).mpr (by omega))]
    rw [List.take_length] at hc
    exact ⟨M1, rfl, hc, hg⟩
theorem q_personal (T : XS) (M : MS) (a1 a2 a3 : Int32) (h : RLL T M) : ∃ (r : Int32) (T' : XS) (M' : MS), fo_personal T a1 a2 a3 = some (r, T') ∧ fm_personal M a1 a2 a3 = some (r, M') ∧ RLL T' M' := by
  obtain ⟨W, Ws, hh⟩ := id h
  have hV := hh.w.V
  have hR := hh.m.R
  have hw := hh.w
  have h6 := hV.ne
  have h16 := hV.na
  have hle := hw.le
  have hn := hV.n
  unfold fo_personal fm_personal f_X11_personal f_X12_personal
  rw [m_isAth hV hR, c_hasA hV hh.c.V, chk_c0, m_A0 hR, isIn_gen (n := W.V.ne) (by omega) rfl, c_hasE hV hh.c.V]
  simp only [bp_some, lt_eq]
  cases h1 : inR a1 W.V.na with
  | false => exact ⟨_, _, _, rfl, rfl, h⟩
  | true =>
    cases h2 : inR a2 W.V.ne with
    | false => exact ⟨_, _, _, rfl, rfl, h⟩
    | true =>
      obtain ⟨a, ha, rfl⟩ := inR_nI h1
      obtain ⟨e, he, rfl⟩ := inR_nI h2
      obtain ⟨S', c1, c2, c3⟩ := c_personal hw hh.c (d := nI W.V.td) he (show a < 16 by omega)
      obtain ⟨M1, d1, d2, d3, d4⟩ := m_row hw hR hh.r.ad hh.r.lf (s := 0) (d := nI W.V.td) he (by decide)
      rw [show nI 0 = 0 from rfl] at d1
      have hl60 : (W.L.foldl (psF W.V a e (nI W.V.td)) []).length ≤ 60 := by
        have := (gro_b (psF_gro (V := W.V) (a := a) (e := e) (d := nI W.V.td)) W.L W.V.n).1
        rw [List.take_of_length_le (by omega)] at this
        omega
      obtain ⟨M2, f1, f2, f3⟩ := m_personal hw (M := si M1 20 0) (a := a) (e := e) (d := nI W.V.td) (by show tR W.V (M1.2 0); rw [d4.2 0 (by decide)]; exact hR) he (by omega) rfl d3 (kk0 := fun S32 => if a3 = -1 then some (S32.1 20, S32) else bp (f_X12_isIn a3 0 (S32.1 20 - 1)) (fun x33 => if x33 = true then chk a3 60 (some (S32.2 19 a3.toNatClampNeg, S32)) else some (-2, S32)))
      rw [if_pos rfl, if_pos rfl, if_pos rfl, if_pos rfl, hh.c.V.td, c1, bp_some, c_pick hl60 c2, bp_some, chk_c4, m_A4 hR, d1, bp_some, d2, f1, m_pick hl60 f2]
      refine ⟨_, _, _, rfl, rfl, RL_q h (cqf_of c3 (by decide) (by decide)) ?_⟩
      exact mqf_of (fI_tr (fI_si (fI_tr (ks := [20]) (ka := [18, 19]) fI_rf d4 (by decide) (by decide)) (by decide)) f3 (by decide) (by decide)) (by decide) (by decide)
/-! the list -/
def bst (V : VW) (L : List Nat) (e s : Nat) (d : Int32) (k : Nat) : Bool := vList V k e s d && L.all (fun j => !vList V j e s d || !decide (V.ath j = V.ath k) || decide (j = k) || vFore V e k j)
theorem bst_t {V : VW} {L : List Nat} {e s : Nat} {d : Int32} {k : Nat} : bst V L e s d k = true ↔ vList V k e s d = true ∧ ∀ j, j ∈ L → vList V j e s d = true → V.ath j = V.ath k → j = k ∨ vFore V e k j = true := by
  unfold bst
  rw [Bool.and_eq_true, List.all_eq_true]
  constructor
  · rintro ⟨h1, h2⟩
    refine ⟨h1, fun j hj hl ha => ?_⟩
    have := h2 j hj
    simp only [hl, ha, Bool.or_eq_true, decide_true, Bool.not_true, Bool.false_eq_true, false_or, decide_eq_true_eq] at this
    exact this
  · rintro ⟨h1, h2⟩
    refine ⟨h1, fun j hj => ?_⟩
    simp only [Bool.or_eq_true, Bool.not_eq_true', decide_eq_true_eq, decide_eq_false_iff_not]
    cases hl : vList V j e s d with
    | false => exact Or.inl (Or.inl (Or.inl rfl))
    | true =>
      by_cases ha : V.ath j = V.ath k
      · rcases h2 j hj hl ha with z | z
        · exact Or.inl (Or.inr z)
        · exact Or.inr z
      · exact Or.inl (Or.inl (Or.inr ha))
def liF (V : VW) (L : List Nat) (e s : Nat) (d : Int32) (acc : List Nat) (k : Nat) : List Nat := if bst V L e s d k = true then insL V e acc k else acc
def liL (V : VW) (L : List Nat) (e s : Nat) (d : Int32) : List Nat := L.foldl (liF V L e s d) []
theorem liF_gro {V : VW} {L : List Nat} {e s : Nat} {d : Int32} : gro (liF V L e s d) (fun k => V.ev k = e) := by
  intro acc k
  unfold liF
  by_cases c : bst V L e s d k = true
  · rw [if_pos c]
    exact Or.inr ⟨insL_len, (vList_f k (bst_t.mp c).1).1, fun y => insL_mem⟩
  · rw [if_neg c]; exact Or.inl rfl
/-- the best of an athlete so far -/
def bP (V : VW) (q : List Nat) (e s : Nat) (d : Int32) (a : Nat) (r : Int32) : Prop := (r = -1 ∧ ∀ j, j ∈ q → vList V j e s d = true → ¬ V.ath j = a) ∨ ∃ k, k ∈ q ∧ r = nI k ∧ vList V k e s d = true ∧ V.ath k = a ∧ ∀ j, j ∈ q → vList V j e s d = true → V.ath j = a → j = k ∨ vFore V e k j = true
theorem fore_tr {V : VW} {e x k j : Nat} (hb : vBet V e (nI (V.va x)) (nI (V.va k)) = true) (h : j = k ∨ vFore V e k j = true) (hk : V.va k < 2 ^ 31) (hj : V.va j < 2 ^ 31) (hx : V.va x < 2 ^ 31) : vFore V e x j = true := by
  have hne : V.va x ≠ V.va k := fun z => by rw [z, vBet_irr] at hb; cases hb
  rcases h with rfl | h
  · unfold vFore; rw [if_neg hne]; exact hb
  · unfold vFore at h ⊢
    rw [vBet_n hx hk] at hb
    by_cases c : V.va k = V.va j
    · rw [← c, if_neg hne, vBet_n hx hk]; exact hb
    · rw [if_neg c, vBet_n hk hj] at h
      rw [vBet_n hx hj]
      by_cases ce : V.e0 e = 0
      · rw [if_pos ce, decide_eq_true_eq] at hb h
        rw [if_neg (by omega), if_pos ce, decide_eq_true_eq]; omega
      · rw [if_neg ce, decide_eq_true_eq] at hb h
        rw [if_neg (by omega), if_neg ce, decide_eq_true_eq]; omega
theorem fore_no {V : VW} {e x k : Nat} (hb : ¬ vBet V e (nI (V.va x)) (nI (V.va k)) = true) (ha : vAhead V x k = false) (hne : x ≠ k) (hk : V.va k < 2 ^ 31) (hx : V.va x < 2 ^ 31) : vFore V e k x = true := by
  unfold vFore
  by_cases c : V.va k = V.va x
  · rw [if_pos c]; exact vA_tot ha hne
  · rw [if_neg c]
    rw [vBet_n hx hk] at hb
    rw [vBet_n hk hx]
    by_cases ce : V.e0 e = 0
    · rw [if_pos ce, decide_eq_true_eq] at hb ⊢; omega
    · rw [if_neg ce, decide_eq_true_eq] at hb ⊢; omega
theorem c_fill16 (S : CS) : ∃ S', f_J7_fill_53178_l1_bestOf S (-1) = some S' ∧ gI [] [38] S S' ∧ ∀ a, a < 16 → S'.2.1 38 a = -1 := by
  unfold f_J7_fill_53178_l1_bestOf L_J7_fill_53178_l1_bestOf_5
  refine lq2 (Q := fun o => ∃ S', o = some S' ∧ gI [] [38] S S' ∧ ∀ a, a < 16 → S'.2.1 38 a = -1) 16 (fun i S1 => gI [] [38] S S1 ∧ ∀ a, a < i → S1.2.1 38 a = -1) ?_ 0 rfl (Nat.zero_le _) (FU_gt (by omega)) ⟨gI_rf, fun a ha => by omega⟩
  rintro i S1 kk hi ⟨hg, hp⟩ hr
  by_cases c : i < 16
  · rw [if_neg (fun h => by rw [show (16 : Int32) = nI 16 from rfl, nI_leI (by omega) (by omega)] at h; omega), chk_nI c (by decide), nI_clamp (by omega), lt_eq, lt_eq, nI_1]
    refine hr _ c ⟨gI_ca hg (by decide), fun a ha => ?_⟩
    show upd (S1.2.1 38) i (-1) a = -1
    by_cases z : a = i
    · subst z; rw [pk_us]
    · rw [pk_un z]; exact hp a (by omega)
  · have : i = 16 := by omega
    subst this
    rw [if_pos (by decide)]
    exact ⟨S1, rfl, hg, hp⟩
theorem c_list {W : WW} {S : CS} (hw : WOK W) (hS : tW W S) {e s : Nat} {d : Int32} (he : e < W.V.ne) (hs : s < 22) : ∃ S', f_X7_fillWithList_l1 S (nI e) (nI s) d = some S' ∧ linC S' (liL W.V W.L e s d) ∧ gI [21] [37, 38] S S' := by
  have hV := hw.V
  have hn := hV.n
  have hle := hw.le
  have h16 := hV.na
  obtain ⟨S0, z1, z2, z3⟩ := c_fill16 S
  have hb := gro_b (liF_gro (V := W.V) (L := W.L) (e := e) (s := s) (d := d)) W.L
  unfold f_X7_fillWithList_l1
  rw [z1, bp_some]
  have pass2 : ∀ S1 : CS, gI [] [38] S S1 → (∀ a, a < 16 → bP W.V W.L e s d a (S1.2.1 38 a)) → ∃ S', L_X7_fillWithList_l1_118 (fun S32 => some S32) FU (ci S1 21 0) 0 = some S' ∧ linC S' (liL W.V W.L e s d) ∧ gI [21] [37, 38] S S' := by
    intro S1 hg1 hbP
    unfold L_X7_fillWithList_l1_118
    refine lq2 (Q := fun o => ∃ S', o = some S' ∧ linC S' (liL W.V W.L e s d) ∧ gI [21] [37, 38] S S') W.V.n (fun i S2 => linC S2 ((W.L.take i).foldl (liF W.V W.L e s d) []) ∧ gI [21] [37] S1 S2) ?_ 0 rfl (Nat.zero_le _) (FU_gt (by omega)) ⟨⟨rfl, fun i h => by cases h⟩, gI_ci gI_rf (by decide)⟩
    rintro i S2 kk hi ⟨hc, hg⟩ hr
    have hS2 := tW_gI (tW_gI hS hg1 (by decide) (by decide)) hg (by decide) (by decide)
    by_cases ci' : i < W.V.n
    · have hil : i < W.L.length := by omega
      have hxm := getD_mem hil
      have hx := (hw.me _).mp hxm
      have xb := vk hV hx
      have hacc := hb i
      rw [gro_s hil] at hr
      have h38 : S2.2.1 38 = S1.2.1 38 := hg.2.1 38 (by decide)
      rw [hS2.V.n, if_neg (fun h => by rw [nI_leI (by omega) (by omega)] at h; omega), chk_nI (by omega) (by decide), nI_clamp (by omega), hS2.o i hil, lt_eq, chk_nI (by omega) (by decide), nI_clamp (by omega), hS2.V.ath _ hx, chk_nI (by omega) (by decide), nI_clamp (by omega), h38]
      simp only [lt_eq, nI_1]
      generalize (W.L.take i).foldl (liF W.V W.L e s d) [] = acc at hc hacc hr
      have hr := fun a h1 h2 => hr a ci' ⟨h1, h2⟩
      have hiff : S1.2.1 38 (W.V.ath (W.L.getD i 0)) = nI (W.L.getD i 0) ↔ bst W.V W.L e s d (W.L.getD i 0) = true := by
        rw [bst_t]
        rcases hbP (W.V.ath (W.L.getD i 0)) (by omega) with ⟨r1, r2⟩ | ⟨k, k1, k2, k3, k4, k5⟩
        · rw [r1]
          exact ⟨fun z => absurd z.symm (nI_nm1 (by omega)), fun z => absurd rfl (r2 _ hxm z.1)⟩
        · have hkn := vk hV ((hw.me k).mp k1)
          rw [k2]
          constructor
          · intro z
            have hz : k = W.L.getD i 0 := (nI_eq (by omega) (by omega)).mp z
            rw [← hz]
            exact ⟨k3, fun j hj hl ha => k5 j hj hl (by rw [ha]; exact k4)⟩
          · rintro ⟨y1, y2⟩
            rcases k5 _ hxm y1 rfl with z | z
            · rw [z]
            · rcases y2 k k1 k3 k4 with z2 | z2
              · rw [z2]
              · exfalso
                unfold vFore at z z2
                by_cases c : W.V.va k = W.V.va (W.L.getD i 0)
                · rw [if_pos c] at z; rw [if_pos c.symm] at z2
                  rw [vA_asym z] at z2; cases z2
                · rw [if_neg c] at z; rw [if_neg (fun h => c h.symm)] at z2
                  rw [vBet_as z] at z2; cases z2
      unfold liF at hr
      by_cases c1 : bst W.V W.L e s d (W.L.getD i 0) = true
      · rw [if_pos (hiff.mpr c1)]
        rw [if_pos c1] at hr
        obtain ⟨S3, g1, g2, g3⟩ := c_insB hV hS2.V (l := acc) (e := e) (fun z hz => (hw.me z).mp (List.mem_of_mem_take (hacc.2 z hz).1)) (by omega) hx (vList_f _ (bst_t.mp c1).1).1 hc
        rw [g1, bp_some]
        exact hr S3 g2 (gI_tr hg g3 (by decide) (by decide))
      · rw [if_neg (fun h => c1 (hiff.mp h))]
        rw [if_neg c1] at hr
        exact hr S2 hc hg
    · have : i = W.V.n := by omega
      subst this
      rw [hS2.V.n, if_pos ((nI_leI (by omega) (by omega)).mpr (by omega))]
      rw [List.take_of_length_le (by omega)] at hc
      exact ⟨S2, rfl, hc, gI_tr (gI_tr (ks := [21]) (ka := [37, 38]) gI_rf hg1 (by decide) (by decide)) hg (by decide) (by decide)⟩
  unfold L_X7_fillWithList_l1_11
  refine lq2 (Q := fun o => ∃ S', o = some S' ∧ linC S' (liL W.V W.L e s d) ∧ gI [21] [37, 38] S S') W.V.n (fun i S1 => gI [] [38] S S1 ∧ ∀ a, a < 16 → bP W.V (W.L.take i) e s d a (S1.2.1 38 a)) ?_ 0 rfl (Nat.zero_le _) (FU_gt (by omega)) ⟨z2, fun a ha => Or.inl ⟨z3 a ha, fun j hj => by simp at hj⟩⟩
  rintro i S1 kk hi ⟨hg, hp⟩ hr
  have hS1 := tW_gI hS hg (by decide) (by decide)
  by_cases ci' : i < W.V.n
  · have hil : i < W.L.length := by omega
    have hxm := getD_mem hil
    have hx := (hw.me _).mp hxm
    have xb := vk hV hx
    rw [hS1.V.n, if_neg (fun h => by rw [nI_leI (by omega) (by omega)] at h; omega), chk_nI (by omega) (by decide), nI_clamp (by omega), hS1.o i hil, lt_eq, c_listed hV hS1.V hx he hs, bp_some, chk_nI (by omega) (by decide), nI_clamp (by omega), hS1.V.ath _ hx, chk_nI (by omega) (by decide), nI_clamp (by omega), chk_nI (by omega) (by decide), chk_nI (by omega) (by decide)]
    simp only [lt_eq, nI_1, jn0]
    have hr := fun a h1 h2 => hr a ci' ⟨h1, h2⟩
    rw [take_s hil] at hr
    -- those of others keep what they have
    have hother : ∀ a, a < 16 → ¬ (vList W.V (W.L.getD i 0) e s d = true ∧ W.V.ath (W.L.getD i 0) = a) → bP W.V (W.L.take i ++ [W.L.getD i 0]) e s d a (S1.2.1 38 a) := by
      intro a ha hno
      rcases hp a ha with ⟨r1, r2⟩ | ⟨k, k1, k2, k3, k4, k5⟩
      · refine Or.inl ⟨r1, fun j hj hl hja => ?_⟩
        rcases List.mem_append.mp hj with hj | hj
        · exact r2 j hj hl hja
        · rw [List.mem_singleton.mp hj] at hl hja; exact hno ⟨hl, hja⟩
      · refine Or.inr ⟨k, List.mem_append_left _ k1, k2, k3, k4, fun j hj hl hja => ?_⟩
        rcases List.mem_append.mp hj with hj | hj
        · exact k5 j hj hl hja
        · rw [List.mem_singleton.mp hj] at hl hja; exact absurd ⟨hl, hja⟩ hno
    by_cases c1 : vList W.V (W.L.getD i 0) e s d = true
    · rw [if_pos c1]
      have hset : bP W.V (W.L.take i ++ [W.L.getD i 0]) e s d (W.V.ath (W.L.getD i 0)) (nI (W.L.getD i 0)) → ∃ S', kk (ca S1 38 (upd (S1.2.1 38) (W.V.ath (W.L.getD i 0)) (nI (W.L.getD i 0)))) (nI (i + 1)) = some S' ∧ linC S' (liL W.V W.L e s d) ∧ gI [21] [37, 38] S S' := by
        intro hb'
        refine hr _ (gI_ca hg (by decide)) (fun a ha => ?_)
        show bP _ _ e s d a (upd (S1.2.1 38) (W.V.ath (W.L.getD i 0)) _ a)
        by_cases z : a = W.V.ath (W.L.getD i 0)
        · subst z; rw [pk_us]; exact hb'
        · rw [pk_un z]; exact hother a ha (fun h => z h.2.symm)
      rcases hp (W.V.ath (W.L.getD i 0)) (by omega) with ⟨r1, r2⟩ | ⟨k, k1, k2, k3, k4, k5⟩
      · rw [r1, if_pos rfl]
        refine hset (Or.inr ⟨W.L.getD i 0, by simp, rfl, c1, rfl, fun j hj hl hja => ?_⟩)
        rcases List.mem_append.mp hj with hj | hj
        · exact absurd hja (r2 j hj hl)
        · exact Or.inl (List.mem_singleton.mp hj)
      · have hkn := (hw.me k).mp (List.mem_of_mem_take k1)
        have kb := vk hV hkn
        rw [k2, if_neg (nI_nm1 (by omega)), c_better hV hS1.V hx hkn, bp_some]
        have eb : vBetM W.V (W.L.getD i 0) k = vBet W.V e (nI (W.V.va (W.L.getD i 0))) (nI (W.V.va k)) := by unfold vBetM; rw [(vList_f _ c1).1]
        rw [eb]
        by_cases c2 : vBet W.V e (nI (W.V.va (W.L.getD i 0))) (nI (W.V.va k)) = true
        · rw [if_pos c2]
          refine hset (Or.inr ⟨W.L.getD i 0, by simp, rfl, c1, rfl, fun j hj hl hja => ?_⟩)
          rcases List.mem_append.mp hj with hj | hj
          · have jb := vk hV ((hw.me j).mp (List.mem_of_mem_take hj))
            exact Or.inr (fore_tr c2 (k5 j hj hl hja) (by omega) (by omega) (by omega))
          · exact Or.inl (List.mem_singleton.mp hj)
        · rw [if_neg c2]
          refine hr S1 hg (fun a ha => ?_)
          by_cases z : W.V.ath (W.L.getD i 0) = a
          · subst z
            refine Or.inr ⟨k, List.mem_append_left _ k1, k2, k3, k4, fun j hj hl hja => ?_⟩
            rcases List.mem_append.mp hj with hj | hj
            · exact k5 j hj hl hja
            · rw [List.mem_singleton.mp hj]
              by_cases zk : W.L.getD i 0 = k
              · exact Or.inl zk
              · exact Or.inr (fore_no c2 (srt_take hw.so hil k1) zk (by omega) (by omega))
          · exact hother a ha (fun h => z h.2)
    · rw [if_neg c1]
      exact hr S1 hg (fun a ha => hother a ha (fun h => c1 h.1))
  · have : i = W.V.n := by omega
    subst this
    rw [hS1.V.n, if_pos ((nI_leI (by omega) (by omega)).mpr (by omega))]
    rw [List.take_of_length_le (by omega)] at hp
    exact pass2 S1 hg hp
