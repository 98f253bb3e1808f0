/-! the reference's list; list, rank, stands -/
theorem nd_inj {l : List Nat} (hd : l.Nodup) {i j : Nat} (hi : i < l.length) (hj : j < l.length) (h : l.getD i 0 = l.getD j 0) : i = j := by
  have gi : ∀ j (hj : j < l.length), l.getD j 0 = l[j] := fun j hj => by rw [List.getD_eq_getElem?_getD, List.getElem?_eq_getElem hj]; rfl
  rw [gi i hi, gi j hj] at h
  by_cases c : i < j
  · exact absurd h (List.pairwise_iff_getElem.mp hd i j hi hj c)
  · by_cases c2 : j < i
    · exact absurd h.symm (List.pairwise_iff_getElem.mp hd j i hj hi c2)
    · omega
theorem m_best {V : VW} {M : MS} {l : List Nat} {e c : Nat} {k0 : Int32 → Option MS} (hV : VOK V) (hR : tR V (M.2 0)) (he : e < V.ne) (hl : ∀ y, y ∈ l → y < V.n) (h60 : l.length ≤ 60) (h18 : hold (M.2 18) l) (hc : c < l.length) : ∃ x, L_X12_layList_34 M (nI e) (nI l.length) (nI c) k0 FU 1 0 = k0 x ∧ ((x = 1 ∧ ∀ t, t < l.length → V.ath (l.getD t 0) = V.ath (l.getD c 0) → t = c ∨ vFore V e (l.getD c 0) (l.getD t 0) = true) ∨ (x = 0 ∧ ∃ t, t < l.length ∧ V.ath (l.getD t 0) = V.ath (l.getD c 0) ∧ ¬ t = c ∧ ¬ vFore V e (l.getD c 0) (l.getD t 0) = true)) := by
  have hxc := hl _ (getD_mem hc)
  have cb := vk hV hxc
  unfold L_X12_layList_34
  refine lq2 (Q := fun o => ∃ x, o = k0 x ∧ ((x = 1 ∧ ∀ t, t < l.length → V.ath (l.getD t 0) = V.ath (l.getD c 0) → t = c ∨ vFore V e (l.getD c 0) (l.getD t 0) = true) ∨ (x = 0 ∧ ∃ t, t < l.length ∧ V.ath (l.getD t 0) = V.ath (l.getD c 0) ∧ ¬ t = c ∧ ¬ vFore V e (l.getD c 0) (l.getD t 0) = true))) l.length (fun j x => (x = 1 ∧ ∀ t, t < j → V.ath (l.getD t 0) = V.ath (l.getD c 0) → t = c ∨ vFore V e (l.getD c 0) (l.getD t 0) = true) ∨ (x = 0 ∧ ∃ t, t < l.length ∧ V.ath (l.getD t 0) = V.ath (l.getD c 0) ∧ ¬ t = c ∧ ¬ vFore V e (l.getD c 0) (l.getD t 0) = true)) ?_ 0 rfl (Nat.zero_le _) (FU_gt (by omega)) (Or.inl ⟨rfl, fun t ht => by omega⟩)
  rintro j x kk hj hp hr
  by_cases cj : j < l.length
  · have hy := hl _ (getD_mem cj)
    have yb := vk hV hy
    have hr := fun a => hr a cj
    simp only [jn0, jn1, lt_eq, nI_1, chk_nI (show j < 60 by omega) (by decide), chk_nI (show c < 60 by omega) (by decide), nI_clamp (show j < 2 ^ 31 by omega), nI_clamp (show c < 2 ^ 31 by omega), h18 j cj, h18 c hc, m_o1 hV hR hy, m_o1 hV hR hxc, bp_some, m_fore hV hR he hxc hy]
    rw [if_neg (fun h => by rw [nI_leI (by omega) (by omega)] at h; omega)]
    rcases hp with ⟨rfl, hp⟩ | ⟨rfl, hp⟩
    · rw [if_neg (by decide)]
      have good : (V.ath (l.getD j 0) = V.ath (l.getD c 0) → j = c ∨ vFore V e (l.getD c 0) (l.getD j 0) = true) → ∃ x, kk 1 (nI (j + 1)) = k0 x ∧ ((x = 1 ∧ ∀ t, t < l.length → V.ath (l.getD t 0) = V.ath (l.getD c 0) → t = c ∨ vFore V e (l.getD c 0) (l.getD t 0) = true) ∨ (x = 0 ∧ ∃ t, t < l.length ∧ V.ath (l.getD t 0) = V.ath (l.getD c 0) ∧ ¬ t = c ∧ ¬ vFore V e (l.getD c 0) (l.getD t 0) = true)) := by
        intro hz
        refine hr 1 (Or.inl ⟨rfl, fun t ht => ?_⟩)
        by_cases z : t = j
        · subst z; exact hz
        · exact hp t (by omega)
      by_cases ca : V.ath (l.getD j 0) = V.ath (l.getD c 0)
      · rw [if_pos (by rw [ca])]
        by_cases cc : j = c
        · rw [if_pos (by rw [cc])]; exact good (fun _ => Or.inl cc)
        · rw [if_neg (fun h => cc ((nI_eq (by omega) (by omega)).mp h))]
          by_cases cf : vFore V e (l.getD c 0) (l.getD j 0) = true
          · rw [if_pos cf]; exact good (fun _ => Or.inr cf)
          · rw [if_neg cf]
            exact hr 0 (Or.inr ⟨rfl, j, cj, ca, cc, cf⟩)
      · rw [if_neg (fun h => ca ((nI_eq (by omega) (by omega)).mp h))]
        exact good (fun h => absurd h ca)
    · rw [if_pos rfl]
      exact hr 0 (Or.inr ⟨rfl, hp⟩)
  · have : j = l.length := by omega
    subst this
    rw [if_pos ((nI_leI (by omega) (by omega)).mpr (by omega))]
    exact ⟨x, rfl, hp⟩
theorem m_list {W : WW} {M : MS} (hw : WOK W) (hR : tR W.V (M.2 0)) (h21 : M.1 21 = -1) (h22 : M.1 22 = -1) {e s : Nat} {d : Int32} (he : e < W.V.ne) (hs : s < 22) : ∃ M', f_X12_layList M (nI e) (nI s) d = some M' ∧ linM M' (liL W.V W.L e s d) ∧ fI [20] [18, 19] M M' := by
  have hV := hw.V
  have hn := hV.n
  have hle := hw.le
  obtain ⟨M0, d1, d2, d3, d4⟩ := m_row hw hR h21 h22 (d := d) he hs
  have hlen := List.length_filter_le (fun k => vList W.V k e s d) W.L
  have hm : ∀ z, z ∈ W.L.filter (fun k => vList W.V k e s d) ↔ z ∈ W.L ∧ vList W.V z e s d = true := fun z => List.mem_filter
  have hso : srt W.V (W.L.filter (fun k => vList W.V k e s d)) := List.Pairwise.filter _ hw.so
  have hfold : liL W.V W.L e s d = (W.L.filter (fun k => vList W.V k e s d)).foldl (liF W.V W.L e s d) [] := by
    unfold liL
    rw [List.foldl_filter]
    congr 1
    funext acc k
    by_cases c : vList W.V k e s d = true
    · rw [if_pos c]
    · rw [if_neg c]; unfold liF; rw [if_neg (fun h => c (bst_t.mp h).1)]
  unfold f_X12_layList
  rw [d1, bp_some, lt_eq, lt_eq, d2, hfold]
  generalize W.L.filter (fun k => vList W.V k e s d) = l at *
  have hb := gro_b (liF_gro (V := W.V) (L := W.L) (e := e) (s := s) (d := d)) l
  have hlm : ∀ y, y ∈ l → y < W.V.n := fun y hy => (hw.me y).mp ((hm y).mp hy).1
  unfold L_X12_layList_21
  refine lq2 (Q := fun o => ∃ M', o = some M' ∧ linM M' (l.foldl (liF W.V W.L e s d) []) ∧ fI [20] [18, 19] M M') l.length (fun i M1 => linM M1 ((l.take i).foldl (liF W.V W.L e s d) []) ∧ fI [20] [19] M0 M1) ?_ 0 rfl (Nat.zero_le _) (FU_gt (by omega)) ⟨⟨rfl, fun i h => by cases h⟩, fI_si fI_rf (by decide)⟩
  rintro i M1 kk hi ⟨hc, hg⟩ hr
  have hR1 : tR W.V (M1.2 0) := by rw [hg.2 0 (by decide), d4.2 0 (by decide)]; exact hR
  by_cases ci' : i < l.length
  · have hxm := getD_mem ci'
    have hx := hlm _ hxm
    have xb := vk hV hx
    have hacc := hb i
    have h18 : hold (M1.2 18) l := by rw [hg.2 18 (by decide)]; exact d3
    have h18i := h18 i ci'
    rw [gro_s ci'] at hr
    rw [if_neg (fun h => by rw [nI_leI (by omega) (by omega)] at h; omega)]
    obtain ⟨x, g1, g2⟩ := m_best hV hR1 he hlm (by omega) h18 ci' (k0 := fun x26 => if x26 = 0 then lt (nI i + 1) fun x44 => kk M1 x44 else lt (M1.1 20) fun x27 => L_X12_layList_129 (nI e) (nI i) (fun S39 x40 => chk (nI i) 60 (chk x40 60 (lt (sa S39 19 (upd (S39.2 19) x40.toNatClampNeg (S39.2 18 (nI i).toNatClampNeg))) fun S41 => lt (si S41 20 ((S41.1 20) + 1)) fun S42 => lt (nI i + 1) fun x43 => kk S42 x43))) FU M1 x27)
    rw [g1]
    simp only [lt_eq, nI_1]
    generalize hacq : (l.take i).foldl (liF W.V W.L e s d) [] = acc at hc hacc hr
    have hr := fun a h1 h2 => hr a ci' ⟨h1, h2⟩
    unfold liF at hr
    have hnd := srt_nodup hso
    rcases g2 with ⟨rfl, g2⟩ | ⟨rfl, t, t1, t2, t3, t4⟩
    · have hbs : bst W.V W.L e s d (l.getD i 0) = true := bst_t.mpr ⟨((hm _).mp hxm).2, fun j hj hlj ha => by
        obtain ⟨t, t1, t2⟩ := mem_ix ((hm j).mpr ⟨hj, hlj⟩)
        rw [← t2] at ha ⊢
        rcases g2 t t1 ha with z | z
        · rw [z]; exact Or.inl rfl
        · exact Or.inr z⟩
      rw [if_pos hbs] at hr
      rw [if_neg (by decide), hc.1]
      obtain ⟨M2, i', y1, y2, y3, y4⟩ := m_insB_list hV hR1 he (l := acc) (x := l.getD i 0) (c := i) (kk0 := fun S39 x40 => chk (nI i) 60 (chk x40 60 (kk (si (sa S39 19 (upd (S39.2 19) x40.toNatClampNeg (S39.2 18 (nI i).toNatClampNeg))) 20 ((sa S39 19 (upd (S39.2 19) x40.toNatClampNeg (S39.2 18 (nI i).toNatClampNeg))).1 20 + 1)) (nI (i + 1))))) (fun z hz => hlm z (List.mem_of_mem_take (hacc.2 z hz).1)) (by omega) hx (by omega) h18i (fun z hz => srt_take hso ci' (hacc.2 z hz).1) hc
      rw [y1, chk_nI (by omega) (by decide), chk_nI y2 (by decide), nI_clamp (by omega), nI_clamp (by omega), y3.2 18 (by decide), h18i]
      refine hr _ ⟨?_, y4⟩ (fI_si (fI_sa (fI_tr (ks := [20]) hg y3 (by decide) (by decide)) (by decide)) (by decide))
      show M2.1 20 + 1 = _
      rw [y3.1 20 (by decide), hc.1, nI_1, insL_len]
    · have hbs : ¬ bst W.V W.L e s d (l.getD i 0) = true := fun h => by
        have htm := (hm _).mp (getD_mem t1)
        rcases (bst_t.mp h).2 _ htm.1 htm.2 t2 with z | z
        · exact t3 (nd_inj hnd t1 ci' z)
        · exact t4 z
      rw [if_neg hbs] at hr
      rw [if_pos rfl]
      exact hr M1 hc hg
  · have : i = l.length := by omega
    subst this
    rw [if_pos ((nI_leI (by omega) (by omega)).mpr (by omega))]
    rw [List.take_length] at hc
    exact ⟨M1, rfl, hc, fI_tr (fI_tr (ka := [18, 19]) fI_rf d4 (by decide) (by decide)) hg (by decide) (by decide)⟩
theorem li_b {W : WW} (hw : WOK W) {e s : Nat} {d : Int32} : (liL W.V W.L e s d).length ≤ 60 ∧ ∀ y, y ∈ liL W.V W.L e s d → y < W.V.n := by
  have hn := hw.V.n
  have hle := hw.le
  have := gro_b (liF_gro (V := W.V) (L := W.L) (e := e) (s := s) (d := d)) W.L W.V.n
  rw [List.take_of_length_le (by omega)] at this
  exact ⟨by unfold liL; omega, fun y hy => (hw.me y).mp (this.2 y hy).1⟩
theorem q_list (T : XS) (M : MS) (a1 a2 a3 a4 : Int32) (h : RLL T M) : ∃ (r : Int32) (T' : XS) (M' : MS), fo_list T a1 a2 a3 a4 = some (r, T') ∧ fm_list M a1 a2 a3 a4 = some (r, M') ∧ RLL T' M' := by
  obtain ⟨W, Ws, hh⟩ := id h
  have hV := hh.w.V
  have hR := hh.m.R
  have hw := hh.w
  unfold fo_list fm_list f_X11_list f_X12_list
  rw [c_asked hV hh.c.V, m_asked hV hR, bp_some, bp_some]
  cases ha : vAsk W.V a1 a2 a3 with
  | false => exact ⟨_, _, _, rfl, rfl, h⟩
  | true =>
    unfold vAsk at ha
    simp only [Bool.and_eq_true] at ha
    obtain ⟨e, he, rfl⟩ := inR_nI ha.1.1
    obtain ⟨s, hs, rfl⟩ := inR_nI ha.1.2
    obtain ⟨S', c1, c2, c3⟩ := c_list hw hh.c (d := a3) he hs
    obtain ⟨M', d1, d2, d3⟩ := m_list hw hR hh.r.ad hh.r.lf (d := a3) he hs
    have hb := li_b hw (e := e) (s := s) (d := a3)
    rw [if_pos rfl, if_pos rfl, c1, d1, bp_some, bp_some, c_pick hb.1 c2, m_pick hb.1 d2]
    exact ⟨_, _, _, rfl, rfl, RL_q h (cqf_of c3 (by decide) (by decide)) (mqf_of d3 (by decide) (by decide))⟩
theorem m_rank {V : VW} {M : MS} {l : List Nat} (hV : VOK V) (hl : ∀ y, y ∈ l → y < V.n) (h60 : l.length ≤ 60) (hc : linM M l) {k : Nat} (hk : k < 2 ^ 31) : L_X12_rank_37 M (nI k) (some (-1, M)) FU 0 = some (plc l k, M) := by
  unfold L_X12_rank_37
  refine lq1 (Q := fun o => o = some (plc l k, M)) l.length (fun i => ∀ j, j < i → l.getD j 0 ≠ k) ?_ 0 rfl (Nat.zero_le _) (FU_gt (by omega)) (fun j hj => by omega)
  intro i kk hi hp hr
  by_cases c : i < l.length
  · have hb := vk hV (hl _ (getD_mem c))
    rw [hc.1, if_neg (fun h => by rw [nI_leI (by omega) (by omega)] at h; omega), chk_nI (by omega) (by decide), nI_clamp (by omega), hc.2 i c]
    by_cases e : l.getD i 0 = k
    · rw [if_pos (by rw [e]), plcP_un (plc_is l k) (Or.inr ⟨i, c, rfl, e, hp⟩)]
    · rw [if_neg (fun h => e ((nI_eq (by omega) hk).mp h)), lt_eq, nI_1]
      refine hr c (fun j hj => ?_)
      by_cases z : j = i
      · subst z; exact e
      · exact hp j (by omega)
  · rw [hc.1, if_pos ((nI_leI (by omega) (by omega)).mpr (by omega)), plcP_un (plc_is l k) (Or.inl ⟨rfl, fun h => by
      obtain ⟨j, h1, h2⟩ := mem_ix h
      exact hp j (by omega) h2⟩)]
theorem q_rank (T : XS) (M : MS) (a1 a2 : Int32) (h : RLL T M) : ∃ (r : Int32) (T' : XS) (M' : MS), fo_rank T a1 a2 = some (r, T') ∧ fm_rank M a1 a2 = some (r, M') ∧ RLL T' M' := by
  obtain ⟨W, Ws, hh⟩ := id h
  have hV := hh.w.V
  have hR := hh.m.R
  have hw := hh.w
  unfold fo_rank fm_rank f_X11_rank f_X12_rank
  rw [c_mas hV hh.c.V, m_isMark hV hR, m_isScope]
  simp only [bp_some]
  cases h1 : inR a1 W.V.n with
  | false => exact ⟨_, _, _, rfl, rfl, h⟩
  | true =>
    cases h2 : inR a2 22 with
    | false => exact ⟨_, _, _, rfl, rfl, h⟩
    | true =>
      obtain ⟨k, hk, rfl⟩ := inR_nI h1
      obtain ⟨s, hs, rfl⟩ := inR_nI h2
      have kb := vk hV hk
      have he := kb.2.2.2.2.2.1
      obtain ⟨S', c1, c2, c3⟩ := c_list hw hh.c (d := nI W.V.td) he hs
      obtain ⟨M', d1, d2, d3⟩ := m_list hw hR hh.r.ad hh.r.lf (d := nI W.V.td) he hs
      have hb := li_b hw (e := W.V.ev k) (s := s) (d := nI W.V.td)
      simp only [Bool.and_self, if_true]
      rw [chk_nI (by omega) (by decide), nI_clamp (by omega), hh.c.V.ev k hk, hh.c.V.td, c1, bp_some, c_place_l1 hV hb.2 hb.1 c2 (by omega), bp_some, m_o0 hV hR hk, bp_some, chk_c4, m_A4 hR, d1, bp_some, m_rank hV hb.2 hb.1 d2 (by omega)]
      exact ⟨_, _, _, rfl, rfl, RL_q h (cqf_of c3 (by decide) (by decide)) (mqf_of d3 (by decide) (by decide))⟩
/-- in how many scopes a mark stands so -/
def rowW (W : WW) (k w s : Nat) : List Nat := if w < 2 then ch W.V W.L (W.V.ev k) s (nI W.V.td) else liL W.V W.L (W.V.ev k) s (nI W.V.td)
def snB (W : WW) (k w s : Nat) : Bool := if w = 1 then decide (rowW W k w s ≠ [] ∧ lst (rowW W k w s) = k) else if w = 3 then decide (rowW W k w s ≠ [] ∧ (rowW W k w s).getD 0 0 = k) else decide (k ∈ rowW W k w s)
def snF (W : WW) (k w s : Nat) (a : Int32) : Int32 := if vWith W.V k s = true then (if snB W k w s = true then a + 1 else a) else a
theorem rowW_b {W : WW} (hw : WOK W) {k w s : Nat} : (rowW W k w s).length ≤ 60 ∧ (∀ y, y ∈ rowW W k w s → y < W.V.n) := by
  unfold rowW
  split
  · exact ⟨(ch_cOK hw).le, (ch_cOK hw).m⟩
  · exact li_b hw
theorem gro_nd {g : List Nat → Nat → List Nat} {P : Nat → Prop} {L : List Nat} (hd : L.Nodup) (hg : gro g P) (hn : ∀ acc k, acc.Nodup → k ∉ acc → (g acc k).Nodup) : ∀ i, ((L.take i).foldl g []).Nodup := by
  intro i
  induction i with
  | zero => exact List.nodup_nil
  | succ i ih =>
    by_cases hi : i < L.length
    · rw [gro_s hi]
      refine hn _ _ ih (fun h => ?_)
      have := ((gro_b hg L i).2 _ h).1
      obtain ⟨j, hj, e⟩ := mem_ix this
      rw [List.length_take] at hj
      have e2 : (L.take i).getD j 0 = L.getD j 0 := by rw [List.getD_eq_getElem?_getD, List.getElem?_take, if_pos (by omega), List.getD_eq_getElem?_getD]
      rw [e2] at e
      have := nd_inj hd (by omega) hi e
      omega
    · rw [List.take_of_length_le (by omega)]
      rw [List.take_of_length_le (by omega)] at ih
      exact ih
theorem insL_nd {V : VW} {e x : Nat} {l : List Nat} (hd : l.Nodup) (hx : x ∉ l) : (insL V e l x).Nodup := by
  unfold insL
  generalize insI (prB V e x) l l.length = i
  have h0 : (l.take i ++ l.drop i).Nodup := by rw [List.take_append_drop]; exact hd
  obtain ⟨a1, a2, a3⟩ := List.nodup_append.mp h0
  refine List.nodup_append.mpr ⟨a1, List.nodup_cons.mpr ⟨fun h => hx (List.mem_of_mem_drop h), a2⟩, ?_⟩
  intro a ha b hb
  rcases List.mem_cons.mp hb with rfl | hb
  · exact fun z => hx (by rw [← z]; exact List.mem_of_mem_take ha)
  · exact a3 a ha b hb
theorem rowW_nd {W : WW} (hw : WOK W) {k w s : Nat} : (rowW W k w s).Nodup := by
  unfold rowW
  split
  · exact srt_nodup (ch_cOK hw).so
  · have := gro_nd (srt_nodup hw.so) (liF_gro (V := W.V) (L := W.L) (e := W.V.ev k) (s := s) (d := nI W.V.td)) (fun acc x h1 h2 => by
      unfold liF
      split
      · exact insL_nd h1 h2
      · exact h1) W.L.length
    rw [List.take_length] at this
    exact this
theorem c_placed {W : WW} {S : CS} (hw : WOK W) (hS : tW W S) {k w s : Nat} (hk : k < W.V.n) (hw4 : w < 4) (hs : s < 22) : ∃ S', f_X11_isPlacedSo S (nI k) (nI s) (nI w) = some (snB W k w s, S') ∧ gI [21] [37, 38] S S' := by
  have hV := hw.V
  have kb := vk hV hk
  have hb := rowW_b hw (k := k) (w := w) (s := s)
  have hfill : ∃ S', linC S' (rowW W k w s) ∧ gI [21] [37, 38] S S' ∧ f_X11_isPlacedSo S (nI k) (nI s) (nI w) = bp (f_X7_placeOf_l1 S' (nI k)) (fun x2 => (if nI w = 1 then (if x2 = -1 then some (false, S') else (if x2 = S'.1 21 - 1 then some (true, S') else some (false, S'))) else (if nI w = 3 then (if x2 = 0 then some (true, S') else some (false, S')) else (if x2 = -1 then some (false, S') else some (true, S'))))) := by
    unfold f_X11_isPlacedSo rowW
    simp only [jn1]
    rw [chk_nI (by omega) (by decide), nI_clamp (by omega), hS.V.ev k hk, hS.V.td, chk_nI (by omega) (by decide)]
    by_cases c : w < 2
    · obtain ⟨S', c1, c2, c3⟩ := c_ch1 hw hS (d := nI W.V.td) kb.2.2.2.2.2.1 hs
      rw [if_pos c, if_neg (show ¬ 2 ≤ nI w from fun h => by rw [show (2 : Int32) = nI 2 from rfl, nI_leI (by omega) (by omega)] at h; omega), c1, bp_some]
      exact ⟨S', c2, gI_tr gI_rf c3 (by decide) (by decide), rfl⟩
    · obtain ⟨S', c1, c2, c3⟩ := c_list hw hS (d := nI W.V.td) kb.2.2.2.2.2.1 hs
      rw [if_neg c, if_pos (show 2 ≤ nI w by rw [show (2 : Int32) = nI 2 from rfl, nI_leI (by omega) (by omega)]; omega), c1, bp_some]
      exact ⟨S', c2, c3, rfl⟩
  obtain ⟨S', l1, l2, l3⟩ := hfill
  refine ⟨S', ?_, l2⟩
  rw [l3, c_place_l1 hV hb.2 hb.1 l1 (by omega), bp_some, l1.1]
  have hpl := plc_is (rowW W k w s) k
  have hm1 := plc_m1 (k := k) hb.1
  have hnd := rowW_nd hw (k := k) (w := w) (s := s)
  unfold snB
  generalize rowW W k w s = l at *
  have hcw : w = 1 ∨ w = 3 ∨ (w ≠ 1 ∧ w ≠ 3) := by omega
  rcases hcw with rfl | rfl | ⟨c1, c3⟩
  · rw [if_pos (show nI 1 = 1 from rfl), if_pos rfl]
    rcases hpl with ⟨e1, e2⟩ | ⟨i, i1, i2, i3, i4⟩
    · rw [if_pos e1, decide_eq_false (fun h => e2 (by rw [← h.2]; exact lst_mem h.1))]
    · obtain ⟨t, ht⟩ : ∃ t, l.length = t + 1 := ⟨l.length - 1, by omega⟩
      rw [i2, if_neg (nI_nm1 (by omega)), ht, nI_pred, lst_at ht]
      by_cases z : i = t
      · rw [if_pos (by rw [z]), decide_eq_true ⟨fun hz => (by rw [hz] at i1; cases i1), (by rw [← z]; exact i3)⟩]
      · rw [if_neg (fun h => z ((nI_eq (by omega) (by omega)).mp h)), decide_eq_false (fun h => z (nd_inj hnd i1 (by omega) (by rw [i3, h.2])))]
  · rw [if_neg (show ¬ nI 3 = 1 by decide), if_pos (show nI 3 = 3 from rfl), if_neg (show ¬ 3 = 1 by decide), if_pos (show 3 = 3 from rfl)]
    rcases hpl with ⟨e1, e2⟩ | ⟨i, i1, i2, i3, i4⟩
    · rw [e1, if_neg (show ¬ (-1 : Int32) = 0 by decide), decide_eq_false (fun h => e2 (by rw [← h.2]; exact getD_mem (List.length_pos_iff.mpr h.1)))]
    · rw [i2]
      have hne : l ≠ [] := fun hz => by rw [hz] at i1; cases i1
      by_cases z : i = 0
      · rw [if_pos (by rw [z]; rfl), decide_eq_true ⟨hne, by rw [← i3, z]⟩]
      · rw [if_neg (nI_ne0 (by omega) (by omega)), decide_eq_false (fun h => i4 0 (by omega) h.2)]
  · rw [if_neg (show ¬ nI w = 1 from fun h => c1 ((nI_eq (by omega) (by omega)).mp (show nI w = nI 1 from h))), if_neg (show ¬ nI w = 3 from fun h => c3 ((nI_eq (by omega) (by omega)).mp (show nI w = nI 3 from h))), if_neg c1, if_neg c3]
    by_cases z : k ∈ l
    · rw [if_neg (fun h => (hm1.mp h) z), decide_eq_true z]
    · rw [if_pos (hm1.mpr z), decide_eq_false z]
theorem q_stands (T : XS) (M : MS) (a1 a2 : Int32) (h : RLL T M) : ∃ (r : Int32) (T' : XS) (M' : MS), fo_stands T a1 a2 = some (r, T') ∧ fm_stands M a1 a2 = some (r, M') ∧ RLL T' M' := by
  obtain ⟨W, Ws, hh⟩ := id h
  have hV := hh.w.V
  have hR := hh.m.R
  have hw := hh.w
  unfold fo_stands fm_stands f_X11_stands f_X12_stands
  rw [c_hasMark hV hh.c.V, m_isMark hV hR, ite_le2 3 (by decide) (show (3 : Int32) = nI 3 from rfl), isIn_n (y := 3) 3 (by decide) rfl]
  simp only [bp_some]
  cases h1 : inR a1 W.V.n with
  | false => exact ⟨_, _, _, rfl, rfl, h⟩
  | true =>
    cases h2 : inR a2 4 with
    | false => exact ⟨_, _, _, rfl, rfl, h⟩
    | true =>
      obtain ⟨k, hk, rfl⟩ := inR_nI h1
      obtain ⟨w, hw4, rfl⟩ := inR_nI h2
      have kb := vk hV hk
      simp only [if_true]
      have hc : ∃ S', L_X11_stands_28 (nI k) (nI w) (fun S18 x19 => some (x19, S18)) FU T.1 0 0 = some (itN (snF W k w) 0 22, S') ∧ gI [21] [37, 38] T.1 S' := by
        unfold L_X11_stands_28
        refine lq3 (Q := fun o => ∃ S', o = some (itN (snF W k w) 0 22, S') ∧ gI [21] [37, 38] T.1 S') 22 (fun s S1 x => gI [21] [37, 38] T.1 S1 ∧ x = itN (snF W k w) 0 s) ?_ 0 rfl (Nat.zero_le _) (FU_gt (by omega)) ⟨gI_rf, rfl⟩
        rintro s S1 x kk hs ⟨hg, rfl⟩ hr
        by_cases c : s < 22
        · have hS1 := cqf_W hh.c (cqf_of hg (by decide) (by decide))
          obtain ⟨S2, g1, g2⟩ := c_placed hw hS1 hk hw4 c
          rw [if_neg (fun h => by rw [show (21 : Int32) = nI 21 from rfl, nI_ltI (by omega) (by omega)] at h; omega), c_with hV hS1.V hk c, bp_some, g1, bw_some]
          simp only [lt_eq, nI_1]
          have hst : itN (snF W k w) 0 (s + 1) = snF W k w s (itN (snF W k w) 0 s) := rfl
          rw [hst] at hr
          generalize itN (snF W k w) 0 s = a at hr
          have hr := fun a b h1 h2 => hr a b c ⟨h1, h2⟩
          unfold snF at hr
          by_cases cw : vWith W.V k s = true
          · rw [if_pos cw]
            rw [if_pos cw] at hr
            have hg2 : gI [21] [37, 38] T.1 S2 := gI_tr hg g2 (by decide) (by decide)
            by_cases cb : snB W k w s = true
            · rw [if_pos cb]; rw [if_pos cb] at hr; exact hr S2 _ hg2 rfl
            · rw [if_neg cb]; rw [if_neg cb] at hr; exact hr S2 _ hg2 rfl
          · rw [if_neg cw]; rw [if_neg cw] at hr; exact hr S1 _ hg rfl
        · have : s = 22 := by omega
          subst this
          rw [if_pos (by decide)]
          exact ⟨S1, rfl, hg⟩
      have hm : ∃ M', L_X12_stands_25 (nI k) (nI w) (fun S34 x35 => some (x35, S34)) FU M 0 0 = some (itN (snF W k w) 0 22, M') ∧ fI [20] [18, 19] M M' := by
        unfold L_X12_stands_25
        refine lq3 (Q := fun o => ∃ M', o = some (itN (snF W k w) 0 22, M') ∧ fI [20] [18, 19] M M') 22 (fun s M1 x => fI [20] [18, 19] M M1 ∧ x = itN (snF W k w) 0 s) ?_ 0 rfl (Nat.zero_le _) (FU_gt (by omega)) ⟨fI_rf, rfl⟩
        rintro s M1 x kk hs ⟨hg, rfl⟩ hr
        by_cases c : s < 22
        · have hR1 : tR W.V (M1.2 0) := by rw [hg.2 0 (by decide)]; exact hR
          have hb := rowW_b hw (k := k) (w := w) (s := s)
          rw [if_neg (fun h => by rw [show (22 : Int32) = nI 22 from rfl, nI_leI (by omega) (by omega)] at h; omega), m_with hV hR1 hk c, bp_some]
          simp only [lt_eq, nI_1, jn1, jn0, m_o0 hV hR1 hk, bp_some, chk_c4, m_A4 hR1]
          have hst : itN (snF W k w) 0 (s + 1) = snF W k w s (itN (snF W k w) 0 s) := rfl
          rw [hst] at hr
          generalize itN (snF W k w) 0 s = a at hr
          have hr := fun a b h1 h2 => hr a b c ⟨h1, h2⟩
          unfold snF at hr
          by_cases cw : vWith W.V k s = true
          · rw [if_pos cw]
            rw [if_pos cw] at hr
            -- the row is laid
            have go : ∀ M2 : MS, linM M2 (rowW W k w s) → fI [20] [18, 19] M1 M2 → ∃ M', (if nI w = 1 then (if nI w = 0 then bp (f_X12_isLinked M2 (nI k)) (fun x18 => if x18 = true then kk M2 (a + 1) (nI (s + 1)) else kk M2 (a + 0) (nI (s + 1))) else if nI w = 2 then bp (f_X12_isLinked M2 (nI k)) (fun x18 => if x18 = true then kk M2 (a + 1) (nI (s + 1)) else kk M2 (a + 0) (nI (s + 1))) else if M2.1 20 ≤ 0 then kk M2 (a + 0) (nI (s + 1)) else chk (M2.1 20 - 1) 60 (if M2.2 19 (M2.1 20 - 1).toNatClampNeg = nI k then kk M2 (a + 1) (nI (s + 1)) else kk M2 (a + 0) (nI (s + 1)))) else (if nI w = 0 then bp (f_X12_isLinked M2 (nI k)) (fun x18 => if x18 = true then kk M2 (a + 1) (nI (s + 1)) else kk M2 (a + 0) (nI (s + 1))) else if nI w = 2 then bp (f_X12_isLinked M2 (nI k)) (fun x18 => if x18 = true then kk M2 (a + 1) (nI (s + 1)) else kk M2 (a + 0) (nI (s + 1))) else if M2.1 20 ≤ 0 then kk M2 (a + 0) (nI (s + 1)) else chk 0 60 (if M2.2 19 (0 : Int32).toNatClampNeg = nI k then kk M2 (a + 1) (nI (s + 1)) else kk M2 (a + 0) (nI (s + 1))))) = some (itN (snF W k w) 0 22, M') ∧ fI [20] [18, 19] M M' := by
              intro M2 hl2 hf2
              have hg2 : fI [20] [18, 19] M M2 := fI_tr hg hf2 (by decide) (by decide)
              rw [m_linked hV hb.2 hb.1 hl2 (by omega), hl2.1, bp_some, Int32.add_zero]
              have h19 := hl2.2
              have yes : snB W k w s = true → ∃ M', kk M2 (a + 1) (nI (s + 1)) = some (itN (snF W k w) 0 22, M') ∧ fI [20] [18, 19] M M' := fun z => by rw [if_pos z] at hr; exact hr M2 _ hg2 rfl
              have no : ¬ snB W k w s = true → ∃ M', kk M2 a (nI (s + 1)) = some (itN (snF W k w) 0 22, M') ∧ fI [20] [18, 19] M M' := fun z => by rw [if_neg z] at hr; exact hr M2 _ hg2 rfl
              unfold snB at yes no
              clear hl2 hr
              generalize rowW W k w s = l at *
              have hcw : w = 0 ∨ w = 1 ∨ w = 2 ∨ w = 3 := by omega
              rcases hcw with rfl | rfl | rfl | rfl
              · rw [if_neg (show ¬ nI 0 = 1 by decide), if_pos (show nI 0 = 0 from rfl)]
                rw [if_neg (by decide), if_neg (by decide)] at yes no
                by_cases z : k ∈ l
                · rw [if_pos (decide_eq_true z)]; exact yes (decide_eq_true z)
                · rw [if_neg (fun h => z (of_decide_eq_true h))]; exact no (fun h => z (of_decide_eq_true h))
              · rw [if_pos (show nI 1 = 1 from rfl), if_neg (show ¬ nI 1 = 0 by decide), if_neg (show ¬ nI 1 = 2 by decide)]
                rw [if_pos rfl] at yes no
                rcases len_cases l with hz | ⟨t, ht, hne⟩
                · rw [if_pos (show nI l.length ≤ 0 by rw [hz]; decide)]
                  exact no (fun h => (of_decide_eq_true h).1 hz)
                · have tb := vk hV (hb.2 _ (getD_mem (l := l) (i := t) (by omega)))
                  rw [if_neg (nI_nle (by omega) (by omega)), ht, nI_pred, chk_nI (by omega) (by decide), nI_clamp (by omega), h19 t (by omega)]
                  rw [lst_at ht] at yes no
                  by_cases z : l.getD t 0 = k
                  · rw [if_pos (by rw [z])]; exact yes (decide_eq_true ⟨hne, z⟩)
                  · rw [if_neg (fun h => z ((nI_eq (by omega) (by omega)).mp h))]; exact no (fun h => z (of_decide_eq_true h).2)
              · rw [if_neg (show ¬ nI 2 = 1 by decide), if_neg (show ¬ nI 2 = 0 by decide), if_pos (show nI 2 = 2 from rfl)]
                rw [if_neg (by decide), if_neg (by decide)] at yes no
                by_cases z : k ∈ l
                · rw [if_pos (decide_eq_true z)]; exact yes (decide_eq_true z)
                · rw [if_neg (fun h => z (of_decide_eq_true h))]; exact no (fun h => z (of_decide_eq_true h))
              · rw [if_neg (show ¬ nI 3 = 1 by decide), if_neg (show ¬ nI 3 = 0 by decide), if_neg (show ¬ nI 3 = 2 by decide)]
                rw [if_neg (by decide), if_pos rfl] at yes no
                rcases len_cases l with hz | ⟨t, ht, hne⟩
                · rw [if_pos (show nI l.length ≤ 0 by rw [hz]; decide)]
                  exact no (fun h => (of_decide_eq_true h).1 hz)
                · have tb := vk hV (hb.2 _ (getD_mem (l := l) (i := 0) (by omega)))
                  rw [if_neg (nI_nle (by omega) (by omega)), chk_of (i := 0) (k := 0) rfl (by decide) (by decide), show M2.2 19 (0 : Int32).toNatClampNeg = nI (l.getD 0 0) from h19 0 (by omega)]
                  by_cases z : l.getD 0 0 = k
                  · rw [if_pos (by rw [z])]; exact yes (decide_eq_true ⟨hne, z⟩)
                  · rw [if_neg (fun h => z ((nI_eq (by omega) (by omega)).mp h))]; exact no (fun h => z (of_decide_eq_true h).2)
            have h21 : M1.1 21 = -1 := by rw [hg.1 21 (by decide)]; exact hh.r.ad
            have h22 : M1.1 22 = -1 := by rw [hg.1 22 (by decide)]; exact hh.r.lf
            by_cases c2 : w < 2
            · obtain ⟨M2, g1, g2, g3⟩ := m_ch hw hR1 h21 h22 (d := nI W.V.td) kb.2.2.2.2.2.1 c
              rw [if_pos (by rw [show (1 : Int32) = nI 1 from rfl, nI_leI (by omega) (by omega)]; omega), g1, bp_some]
              exact go M2 (by unfold rowW; rw [if_pos c2]; exact g2) g3
            · obtain ⟨M2, g1, g2, g3⟩ := m_list hw hR1 h21 h22 (d := nI W.V.td) kb.2.2.2.2.2.1 c
              rw [if_neg (fun h => by rw [show (1 : Int32) = nI 1 from rfl, nI_leI (by omega) (by omega)] at h; omega), g1, bp_some]
              exact go M2 (by unfold rowW; rw [if_neg c2]; exact g2) g3
          · rw [if_neg cw]; rw [if_neg cw] at hr; exact hr M1 _ hg rfl
        · have : s = 22 := by omega
          subst this
          rw [if_pos (by decide)]
          exact ⟨M1, rfl, hg⟩
      obtain ⟨S', e1, e2⟩ := hc
      obtain ⟨M', e3, e4⟩ := hm
      rw [e1, e3]
      exact ⟨_, _, _, rfl, rfl, RL_q h (cqf_of e2 (by decide) (by decide)) (mqf_of e4 (by decide) (by decide))⟩
