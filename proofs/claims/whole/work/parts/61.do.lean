/-! the deeds: days, paper, ratify, strike, ban -/
theorem tC_wpa {V : VW} {S : CS} {f : Nat → Nat} {g : Nat → Int32} (h : tC V S) (hg : ∀ j, j < V.n → g j = nI (f j)) : tC (V.wpa f) (ca S 21 g) := ⟨h.td, h.ne, h.np, h.na, h.n, h.e0, h.e1, h.p0, h.p1, h.a0, h.a1, h.ev, h.ath, h.pl, h.dy, h.mi, h.va, h.wi, h.sh, hg, h.ra, h.sk⟩
theorem tW_wpa {W : WW} {S : CS} {f : Nat → Nat} {g : Nat → Int32} (h : tW W S) (hg : ∀ j, j < W.V.n → g j = nI (f j)) : tW (W.wV (W.V.wpa f)) (ca S 21 g) := ⟨tC_wpa h.V hg, h.o, h.nl, h.ne, h.ncl, h.nc, h.sl, h.se, h.scl, h.sc⟩
theorem tC_wra {V : VW} {S : CS} {f : Nat → Int32} {g : Nat → Int32} (h : tC V S) (hg : ∀ j, j < V.n → g j = f j) : tC (V.wra f) (ca S 22 g) := ⟨h.td, h.ne, h.np, h.na, h.n, h.e0, h.e1, h.p0, h.p1, h.a0, h.a1, h.ev, h.ath, h.pl, h.dy, h.mi, h.va, h.wi, h.sh, h.pa, hg, h.sk⟩
theorem tW_wra {W : WW} {S : CS} {f : Nat → Int32} {g : Nat → Int32} (h : tW W S) (hg : ∀ j, j < W.V.n → g j = f j) : tW (W.wV (W.V.wra f)) (ca S 22 g) := ⟨tC_wra h.V hg, h.o, h.nl, h.ne, h.ncl, h.nc, h.sl, h.se, h.scl, h.sc⟩
theorem tC_wsk {V : VW} {S : CS} {f : Nat → Int32} {g : Nat → Int32} (h : tC V S) (hg : ∀ j, j < V.n → g j = f j) : tC (V.wsk f) (ca S 23 g) := ⟨h.td, h.ne, h.np, h.na, h.n, h.e0, h.e1, h.p0, h.p1, h.a0, h.a1, h.ev, h.ath, h.pl, h.dy, h.mi, h.va, h.wi, h.sh, h.pa, h.ra, hg⟩
theorem tW_wsk {W : WW} {S : CS} {f : Nat → Int32} {g : Nat → Int32} (h : tW W S) (hg : ∀ j, j < W.V.n → g j = f j) : tW (W.wV (W.V.wsk f)) (ca S 23 g) := ⟨tC_wsk h.V hg, h.o, h.nl, h.ne, h.ncl, h.nc, h.sl, h.se, h.scl, h.sc⟩
theorem tC_wtd {V : VW} {S : CS} {v : Nat} (h : tC V S) : tC (V.wtd v) (ci S 0 (nI v)) := ⟨rfl, h.ne, h.np, h.na, h.n, h.e0, h.e1, h.p0, h.p1, h.a0, h.a1, h.ev, h.ath, h.pl, h.dy, h.mi, h.va, h.wi, h.sh, h.pa, h.ra, h.sk⟩
theorem tW_wtd {W : WW} {S : CS} {v : Nat} (h : tW W S) : tW (W.wV (W.V.wtd v)) (ci S 0 (nI v)) := ⟨tC_wtd h.V, h.o, h.nl, h.ne, h.ncl, h.nc, h.sl, h.se, h.scl, h.sc⟩
theorem VOK_td {V : VW} (h : VOK V) {v : Nat} (hv : V.td ≤ v) (h2 : v ≤ 20000) : VOK (V.wtd v) :=
  ⟨h.ne, h.np, h.na, h.n, h2, h.e0, h.a0, h.ev, h.ath, h.pl, fun k hk => Nat.le_trans (h.dy k hk) hv, h.mi, h.va, h.pa, fun k hk => (h.ra k hk).imp id (fun ⟨d, a, b⟩ => ⟨d, Nat.le_trans a hv, b⟩), fun k hk => (h.sk k hk).imp id (fun ⟨d, a, b⟩ => ⟨d, Nat.le_trans a hv, b⟩)⟩
theorem WOK_td {W : WW} (h : WOK W) {v : Nat} (hv : W.V.td ≤ v) (h2 : v ≤ 20000) : WOK (W.wV (W.V.wtd v)) := ⟨VOK_td h.V hv h2, h.so, h.me, h.le, h.n, h.s, h.dy⟩
theorem WOK_ra {W : WW} (h : WOK W) {k : Nat} : WOK (W.wV (W.V.wra (upN W.V.ra k (nI W.V.td)))) := by
  have hV := h.V
  refine ⟨⟨hV.ne, hV.np, hV.na, hV.n, hV.td, hV.e0, hV.a0, hV.ev, hV.ath, hV.pl, hV.dy, hV.mi, hV.va, hV.pa, fun j hj => ?_, hV.sk⟩, h.so, h.me, h.le, h.n, h.s, fun j hj => ?_⟩
  · show upN W.V.ra k (nI W.V.td) j = -1 ∨ ∃ d, d ≤ W.V.td ∧ upN W.V.ra k (nI W.V.td) j = nI d
    by_cases z : j = k
    · subst z; rw [upN_s]; exact Or.inr ⟨W.V.td, Nat.le_refl _, rfl⟩
    · rw [upN_n z]; exact hV.ra j hj
  · show upN W.V.ra k (nI W.V.td) j ≠ -1 → nI (W.V.dy j) ≤ upN W.V.ra k (nI W.V.td) j
    by_cases z : j = k
    · subst z; rw [upN_s]
      intro _
      have jb := vk hV hj
      exact (nI_leI (by omega) (by omega)).mpr (hV.dy j hj)
    · rw [upN_n z]; exact h.dy j hj
theorem WOK_sk {W : WW} (h : WOK W) {f : Nat → Int32} (hf : ∀ j, j < W.V.n → f j = W.V.sk j ∨ f j = nI W.V.td) : WOK (W.wV (W.V.wsk f)) := by
  have hV := h.V
  refine ⟨⟨hV.ne, hV.np, hV.na, hV.n, hV.td, hV.e0, hV.a0, hV.ev, hV.ath, hV.pl, hV.dy, hV.mi, hV.va, hV.pa, hV.ra, fun j hj => ?_⟩, h.so, h.me, h.le, h.n, h.s, h.dy⟩
  show f j = -1 ∨ ∃ d, d ≤ W.V.td ∧ f j = nI d
  rcases hf j hj with e | e
  · rw [e]; exact hV.sk j hj
  · rw [e]; exact Or.inr ⟨W.V.td, Nat.le_refl _, rfl⟩
def afr (S S' : CS) (M M' : MS) : Prop := S'.2.1 31 = S.2.1 31 ∧ S'.2.1 32 = S.2.1 32 ∧ S'.2.1 33 = S.2.1 33 ∧ S'.1 17 = S.1 17 ∧ S'.1 18 = S.1 18 ∧ M'.2 26 = M.2 26 ∧ M'.2 27 = M.2 27 ∧ M'.1 28 = M.1 28 ∧ M'.1 29 = M.1 29 ∧ M'.1 30 = M.1 30
theorem afr_rf {S : CS} {M : MS} : afr S S M M := ⟨rfl, rfl, rfl, rfl, rfl, rfl, rfl, rfl, rfl, rfl⟩
theorem afr_of {S S' : CS} {M M' : MS} {ks ka ks2 ka2 : List Nat} (h : gI ks ka S S') (h2 : fI ks2 ka2 M M') (a : ∀ k, k ∈ [17, 18] → k ∉ ks) (b : ∀ k, k ∈ [31, 32, 33] → k ∉ ka) (c : ∀ k, k ∈ [28, 29, 30] → k ∉ ks2) (d : ∀ k, k ∈ [26, 27] → k ∉ ka2) : afr S S' M M' :=
  ⟨h.2.1 31 (b _ (by decide)), h.2.1 32 (b _ (by decide)), h.2.1 33 (b _ (by decide)), h.1 17 (a _ (by decide)), h.1 18 (a _ (by decide)), h2.2 26 (d _ (by decide)), h2.2 27 (d _ (by decide)), h2.1 28 (c _ (by decide)), h2.1 29 (c _ (by decide)), h2.1 30 (c _ (by decide))⟩
/-- what a deed's call gives -/
def dRes (T : XS) (M : MS) (oc : Option RX) (om : Option (Int32 × MS)) : Prop := ∃ (r : RX) (M' : MS), oc = some r ∧ om = some (r.1, M') ∧ RLL (r.2.1, xdl r.2.2 T.2) M' ∧ afr T.1 r.2.1 M M'
theorem dRes_no {T : XS} {M : MS} (h : RLL T M) (v : Int32) : dRes T M (some (v, T.1, none)) (some (v, M)) := ⟨_, M, rfl, rfl, h, afr_rf⟩
/-- frames of a deed -/
theorem rOK_d {S S' : CS} {M M' : MS} {ks ka ks2 ka2 : List Nat} (hr : rOK S M) (h : gI ks ka S S') (h2 : fI ks2 ka2 M M') (a : ∀ k, k ∈ [1, 5, 17, 18, 23] → k ∉ ks) (b : ∀ k, k ∈ [2, 33, 43] → k ∉ ka) (c : ∀ k, k ∈ [5, 7, 21, 22, 29, 30, 32] → k ∉ ks2) (d : ∀ k, k ∈ [4, 27, 31] → k ∉ ka2) (h19 : ∃ n, n < 12 ∧ S'.1 19 = nI n) : rOK S' M' := rOK_fr hr (fun k hk => h.1 k (a k hk)) (fun k hk => h.2.1 k (b k hk)) (fun k hk => h2.1 k (c k hk)) (fun k hk => h2.2 k (d k hk)) h19
theorem d_days {T : XS} {M : MS} (h : RLL T M) (a : Int32) : dRes T M (f_X11_days T.1 a) (f_X12_days M a) := by
  obtain ⟨W, Ws, hh⟩ := id h
  have hV := hh.w.V
  have htd := hV.td
  unfold f_X11_days f_X12_days f_X12_isIn
  by_cases c1 : a < 1
  · rw [if_pos c1, if_pos c1]; exact dRes_no h _
  · rw [if_neg c1, if_neg c1]
    by_cases c2 : a ≤ 20000
    · have c3 : ¬ 20000 < a := fun z => by rw [Int32.le_iff_toInt_le] at c2; rw [Int32.lt_iff_toInt_lt] at z; omega
      rw [if_pos c2, if_neg c3, bp_some, if_pos rfl]
      have ha : ∃ m, m ≤ 20000 ∧ a = nI m := by
        have h0 : ¬ a < 0 := fun z => c1 (by
          rw [Int32.lt_iff_toInt_lt, show (0 : Int32).toInt = 0 from rfl] at z
          rw [Int32.lt_iff_toInt_lt, show (1 : Int32).toInt = 1 from rfl]; omega)
        obtain ⟨m, hm, rfl⟩ := nI_of h0
        rw [show (20000 : Int32) = nI 20000 from rfl, nI_leI (by omega) (by omega)] at c2
        exact ⟨m, c2, rfl⟩
      obtain ⟨m, hm, rfl⟩ := ha
      obtain ⟨M1, m1, m2, m3, m4⟩ := m_deed hh
      obtain ⟨S1, s1, s2, s3, s4⟩ := c_add hh (S := T.1) rfl rfl
      have hR1 : tR W.V (M1.2 0) := by rw [m2.2 0 (by decide)]; exact hh.m.R
      have e0 : S1.1 0 = nI W.V.td := by rw [s2.1 0 (by decide)]; exact hh.c.V.td
      have et : (if 20000 < S1.1 0 + nI m then 20000 else S1.1 0 + nI m) = nI (min (W.V.td + m) 20000) := by
        rw [e0, nI_add, show (20000 : Int32) = nI 20000 from rfl]
        by_cases z : 20000 < W.V.td + m
        · rw [if_pos ((nI_ltI (by omega) (by omega)).mpr z), show min (W.V.td + m) 20000 = 20000 by omega]
        · rw [if_neg (fun y => z ((nI_ltI (by omega) (by omega)).mp y)), show min (W.V.td + m) 20000 = W.V.td + m by omega]
      rw [s1, bp_some, lt_eq, et, m1, bp_some]
      simp only [jn1, chk_c4, m_A4 hR1, nI_add, lt_eq]
      have em : (if nI (W.V.td + m) ≤ 20000 then some ((sa M1 0 (upd (M1.2 0) (4 : Int32).toNatClampNeg (nI (W.V.td + m)))).2 0 (4 : Int32).toNatClampNeg, sa M1 0 (upd (M1.2 0) (4 : Int32).toNatClampNeg (nI (W.V.td + m)))) else some ((sa M1 0 (upd (M1.2 0) (4 : Int32).toNatClampNeg 20000)).2 0 (4 : Int32).toNatClampNeg, sa M1 0 (upd (M1.2 0) (4 : Int32).toNatClampNeg 20000))) = some (nI (min (W.V.td + m) 20000), sa M1 0 (upd (M1.2 0) 4 (nI (min (W.V.td + m) 20000)))) := by
        rw [show (20000 : Int32) = nI 20000 from rfl]
        by_cases z : W.V.td + m ≤ 20000
        · rw [if_pos ((nI_leI (by omega) (by omega)).mpr z), show min (W.V.td + m) 20000 = W.V.td + m by omega]; rfl
        · rw [if_neg (fun y => z ((nI_leI (by omega) (by omega)).mp y)), show min (W.V.td + m) 20000 = 20000 by omega]; rfl
      rw [em]
      have hg : gI [0, 19, 20] [] T.1 (ci S1 0 (nI (min (W.V.td + m) 20000))) := gI_ci (gI_tr (ks := [0, 19, 20]) gI_rf s2 (by decide) (by decide)) (by decide)
      have hf : fI [3] [0, 1] M (sa M1 0 (upd (M1.2 0) 4 (nI (min (W.V.td + m) 20000)))) := fI_sa (fI_tr (ka := [0, 1]) fI_rf m2 (by decide) (by decide)) (by decide)
      refine ⟨_, _, rfl, rfl, ?_, afr_of hg hf (by decide) (by decide) (by decide) (by decide)⟩
      have hW1 : tW W S1 := tW_gI hh.c s2 (by decide) (by decide)
      refine RL_deed hh (W' := W.wV (W.V.wtd (min (W.V.td + m) 20000))) (WOK_td hh.w (by omega) (by omega)) (tW_wtd hW1) ?_ (rOK_d hh.r hg hf (by decide) (by decide) (by decide) (by decide) s4) s3 m3 ?_ m4
      · show tA _ (upd (M1.2 0) 4 _)
        exact tA_td (by rw [m2.2 0 (by decide)]; exact hh.m) _
      · intro S hS
        refine ⟨ci S 0 (nI W.V.td), ?_, ?_, ?_⟩
        · show f_X11_undo_6 S (T.1.1 0) = _
          unfold f_X11_undo_6
          rw [lt_eq, hh.c.V.td]
        · exact tW_wtd (W := W.wV (W.V.wtd (min (W.V.td + m) 20000))) (v := W.V.td) hS
        · exact ⟨fun k hk => up_ne (fun z => hk (by rw [z]; decide)), fun k hk => rfl⟩
    · have c3 : 20000 < a := by rw [Int32.le_iff_toInt_le] at c2; rw [Int32.lt_iff_toInt_lt]; omega
      rw [if_neg c2, if_pos c3]; exact dRes_no h _
theorem markAt_e {k w : Nat} (hk : k < 60) (hw : w ≤ 10) {x : Int32} (hx : x = nI w) : (65 : Int32) + 11 * nI k + x = nI (65 + 11 * k + w) := by
  rw [hx, show (65 : Int32) = nI 65 from rfl, show (11 : Int32) = nI 11 from rfl, pk_mul, nI_add, nI_add]
theorem d_paper {T : XS} {M : MS} (h : RLL T M) (a b : Int32) : dRes T M (f_X11_paper T.1 a b) (f_X12_paper M a b) := by
  obtain ⟨W, Ws, hh⟩ := id h
  have hV := hh.w.V
  unfold f_X11_paper f_X12_paper
  rw [c_hasMark hV hh.c.V, m_isMark hV hh.m.R, ite_le2 63 (by decide) (show (63 : Int32) = nI 63 from rfl), isIn_n (y := 63) 63 (by decide) rfl]
  simp only [bp_some]
  cases h1 : inR a W.V.n with
  | false => exact dRes_no h _
  | true =>
    cases h2 : inR b 64 with
    | false => exact dRes_no h _
    | true =>
      obtain ⟨k, hk, rfl⟩ := inR_nI h1
      obtain ⟨v, hv, rfl⟩ := inR_nI h2
      have kb := vk hV hk
      simp only [if_true]
      obtain ⟨M1, m1, m2, m3, m4⟩ := m_deed hh
      obtain ⟨S1, s1, s2, s3, s4⟩ := c_add hh (S := T.1) rfl rfl
      have hA1 : tA W (M1.2 0) := by rw [m2.2 0 (by decide)]; exact hh.m
      have hW1 : tW W S1 := tW_gI hh.c s2 (by decide) (by decide)
      have e21 : S1.2.1 21 k = nI (W.V.pa k) := hW1.V.pa k hk
      have e8 : M1.2 0 (65 + 11 * k + 8) = nI (W.V.pa k) := hA1.R.pa k hk
      have hA2 := tA_pa hV hA1 hk (W.V.pa k ||| v)
      have hor := or_lt kb.2.2.2.2.2.2.2.2.2.2.2.2.2 hv
      have hw2 := WOK_pa hh.w (k := k) (show W.V.pa k ||| v ≤ 63 by omega)
      unfold f_X12_markAt
      rw [s1, m1, bp_some, bp_some, bp_some, markAt_e (by omega) (by decide) (show (8 : Int32) = nI 8 from rfl)]
      simp only [chk_nI (show k < 60 by omega) (by decide), nI_clamp (show k < 2 ^ 31 by omega), chk_nI (show 65 + 11 * k + 8 < 1177 by omega) (by decide), nI_clamp (show 65 + 11 * k + 8 < 2 ^ 31 by omega), lt_eq, e21, e8, nI_or]
      have hR2 : tR (W.V.wpa (upN W.V.pa k (W.V.pa k ||| v))) ((sa M1 0 (upd (M1.2 0) (65 + 11 * k + 8) (nI (W.V.pa k ||| v)))).2 0) := hA2.R
      have e8' : f_X12_of (sa M1 0 (upd (M1.2 0) (65 + 11 * k + 8) (nI (W.V.pa k ||| v)))) (nI k) 8 = some (nI (W.V.pa k ||| v)) := by
        rw [m_o8 hw2.V hR2 hk]
        exact congrArg (fun x => some (nI x)) upN_s
      rw [e8', bp_some]
      have ek : (ca S1 21 (upd (S1.2.1 21) k (nI (W.V.pa k ||| v)))).2.1 21 k = nI (W.V.pa k ||| v) := pk_us
      rw [ek]
      have hg : gI [19, 20] [21] T.1 (ca S1 21 (upd (S1.2.1 21) k (nI (W.V.pa k ||| v)))) := gI_ca (gI_tr (ka := [21]) gI_rf s2 (by decide) (by decide)) (by decide)
      have hf : fI [3] [0, 1] M (sa M1 0 (upd (M1.2 0) (65 + 11 * k + 8) (nI (W.V.pa k ||| v)))) := fI_sa (fI_tr (ka := [0, 1]) fI_rf m2 (by decide) (by decide)) (by decide)
      refine ⟨_, _, rfl, rfl, ?_, afr_of hg hf (by decide) (by decide) (by decide) (by decide)⟩
      refine RL_deed hh (W' := W.wV (W.V.wpa (upN W.V.pa k (W.V.pa k ||| v)))) hw2 (tW_wpa hW1 (fun j hj => ?_)) hA2 (rOK_d hh.r hg hf (by decide) (by decide) (by decide) (by decide) s4) s3 m3 ?_ m4
      · by_cases z : j = k
        · subst z; rw [pk_us, upN_s]
        · rw [pk_un z, upN_n z]; exact hW1.V.pa j hj
      · intro S hS
        refine ⟨ca S 21 (upd (S.2.1 21) k (nI (W.V.pa k))), ?_, ?_, ?_⟩
        · show f_X11_undo_5 S (nI k) (T.1.2.1 21 k) = _
          unfold f_X11_undo_5
          rw [show f_X1_hasMark S (nI k) = some true from (c_hasMark hw2.V hS.V (nI k)).trans (congrArg some (inR_of (n := W.V.n) hk (by omega))), bp_some, if_pos rfl, chk_nI (by omega) (by decide), nI_clamp (by omega), lt_eq, hh.c.V.pa k hk]
        · refine tW_wpa (W := W.wV (W.V.wpa (upN W.V.pa k (W.V.pa k ||| v)))) (f := W.V.pa) hS (fun j hj => ?_)
          by_cases z : j = k
          · subst z; rw [pk_us]
          · rw [pk_un z]
            have := hS.V.pa j hj
            rw [this]
            exact congrArg nI (upN_n z)
        · exact ⟨fun j hj => rfl, fun j hj => up_ne (fun z => hj (by rw [z]; decide))⟩
theorem d_ratify {T : XS} {M : MS} (h : RLL T M) (a : Int32) : dRes T M (f_X11_ratify T.1 a) (f_X12_ratify M a) := by
  obtain ⟨W, Ws, hh⟩ := id h
  have hV := hh.w.V
  unfold f_X11_ratify f_X12_ratify
  rw [c_hasMark hV hh.c.V, m_isMark hV hh.m.R]
  simp only [bp_some]
  cases h1 : inR a W.V.n with
  | false => exact dRes_no h _
  | true =>
    obtain ⟨k, hk, rfl⟩ := inR_nI h1
    have kb := vk hV hk
    have hR := hh.m.R
    rw [if_pos rfl, if_pos rfl, m_o9 hV hR hk, bp_some, m_o10 hV hR hk, bp_some]
    simp only [chk_nI (show k < 60 by omega) (by decide), nI_clamp (show k < 2 ^ 31 by omega), hh.c.V.ra k hk, hh.c.V.sk k hk, hh.c.V.pa k hk]
    by_cases c1 : W.V.ra k = -1
    · rw [if_pos c1, if_pos c1]
      by_cases c2 : W.V.sk k = -1
      · rw [if_pos c2, if_pos c2]
        obtain ⟨S1, x1, x2⟩ := c_lack hh.w hh.c hk (nI (W.V.pa k))
        obtain ⟨M1, y1, y2⟩ := m_why hh.w hh.m hk
        rw [x1, y1, bw_some, bw_some]
        have hq := RL_q h (cqf_of x2 (by decide) (by decide)) (mqf_of y2 (by decide) (by decide))
        by_cases c3 : lack W k (nI (W.V.pa k)) = -1
        · rw [if_pos c3, if_pos c3]
          -- the reference's state before the deed
          have hh1 : RLW (S1, T.2) M1 W Ws := by
            have hr := hh.r
            refine ⟨hh.w, tW_gI hh.c x2 (by decide) (by decide), by rw [y2.2 0 (by decide)]; exact hh.m, rOK_d hr x2 y2 (by decide) (by decide) (by decide) (by decide) ?_, hh.d12, ?_, ?_, hh.dl, hh.dd, ?_⟩
            · obtain ⟨n, hn, e⟩ := hr.rg
              exact ⟨n, hn, by rw [x2.1 19 (by decide)]; exact e⟩
            · show S1.1 20 = _; rw [x2.1 20 (by decide)]; exact hh.dc
            · rw [y2.1 3 (by decide)]; exact hh.dm
            · rw [y2.2 1 (by decide)]; exact hh.dk
          obtain ⟨M2, m1, m2, m3, m4⟩ := m_deed hh1
          obtain ⟨S2, s1, s2, s3, s4⟩ := c_add hh1 (S := S1) rfl rfl
          have hA2 : tA W (M2.2 0) := by rw [m2.2 0 (by decide)]; exact hh1.m
          have hW2 : tW W S2 := tW_gI hh1.c s2 (by decide) (by decide)
          have hA3 := tA_ra hV hA2 hk (nI W.V.td)
          have e4 : (sa M2 0 (upd (M2.2 0) (65 + 11 * k + 9) (nI W.V.td))).2 0 (4 : Int32).toNatClampNeg = nI W.V.td := hA3.R.td
          unfold f_X12_markAt
          rw [s1, m1, bp_some, bp_some, bp_some, markAt_e (by omega) (by decide) (show (9 : Int32) = nI 9 from rfl)]
          simp only [chk_c4, m_A4 hA2.R, chk_nI (show 65 + 11 * k + 9 < 1177 by omega) (by decide), nI_clamp (show 65 + 11 * k + 9 < 2 ^ 31 by omega), lt_eq, hW2.V.td, e4]
          have e0 : (ca S2 22 (upd (S2.2.1 22) k (nI W.V.td))).1 0 = nI W.V.td := hW2.V.td
          rw [e0]
          have hg : gI [19, 20, 24] [22, 48] T.1 (ca S2 22 (upd (S2.2.1 22) k (nI W.V.td))) := gI_ca (gI_tr (gI_tr (ks := [19, 20, 24]) (ka := [22, 48]) gI_rf x2 (by decide) (by decide)) s2 (by decide) (by decide)) (by decide)
          have hf : fI [3] [0, 1, 17] M (sa M2 0 (upd (M2.2 0) (65 + 11 * k + 9) (nI W.V.td))) := fI_sa (fI_tr (fI_tr (ks := [3]) (ka := [0, 1, 17]) fI_rf y2 (by decide) (by decide)) m2 (by decide) (by decide)) (by decide)
          refine ⟨_, _, rfl, rfl, ?_, afr_of hg hf (by decide) (by decide) (by decide) (by decide)⟩
          have hw2 := WOK_ra hh.w (k := k)
          refine RL_deed hh1 (W' := W.wV (W.V.wra (upN W.V.ra k (nI W.V.td)))) hw2 (tW_wra hW2 (fun j hj => ?_)) hA3 (rOK_d hh.r hg hf (by decide) (by decide) (by decide) (by decide) s4) s3 m3 ?_ m4
          · by_cases z : j = k
            · subst z; rw [pk_us, upN_s]
            · rw [pk_un z, upN_n z]; exact hW2.V.ra j hj
          · intro S hS
            refine ⟨ca S 22 (upd (S.2.1 22) k (-1)), ?_, ?_, ?_⟩
            · show f_X11_undo_3 S (nI k) = _
              unfold f_X11_undo_3
              rw [show f_X1_hasMark S (nI k) = some true from (c_hasMark hw2.V hS.V (nI k)).trans (congrArg some (inR_of (n := W.V.n) hk (by omega))), bp_some, if_pos rfl, chk_nI (by omega) (by decide), nI_clamp (by omega), lt_eq]
            · refine tW_wra (W := W.wV (W.V.wra (upN W.V.ra k (nI W.V.td)))) (f := W.V.ra) hS (fun j hj => ?_)
              by_cases z : j = k
              · subst z; rw [pk_us, c1]
              · rw [pk_un z]
                have := hS.V.ra j hj
                rw [this]
                exact upN_n z
            · exact ⟨fun j hj => rfl, fun j hj => up_ne (fun z => hj (by rw [z]; decide))⟩
        · rw [if_neg c3, if_neg c3]
          exact ⟨_, _, rfl, rfl, hq, afr_of x2 y2 (by decide) (by decide) (by decide) (by decide)⟩
      · rw [if_neg c2, if_neg c2]; exact dRes_no h _
    · rw [if_neg c1, if_neg c1]; exact dRes_no h _
/-! bits of marks -/
theorem lN_or (a b : Nat) : lN a ||| lN b = lN (a ||| b) := by
  apply Int64.toBitVec_inj.mp
  show BitVec.ofNat 64 a ||| BitVec.ofNat 64 b = BitVec.ofNat 64 (a ||| b)
  exact BitVec.ofNat_or.symm
theorem lN_and (a b : Nat) : lN a &&& lN b = lN (a &&& b) := by
  apply Int64.toBitVec_inj.mp
  show BitVec.ofNat 64 a &&& BitVec.ofNat 64 b = BitVec.ofNat 64 (a &&& b)
  exact BitVec.ofNat_and.symm
theorem sh_j : ∀ j : Fin 60, (((nI j.val).toInt64 &&& 63).toBitVec.smod 64).toNat = j.val := by decide
theorem l_shr {b j : Nat} (hb : b < 2 ^ 63) {s : Int64} (hs : (s.toBitVec.smod 64).toNat = j) : lN b >>> s = lN (b >>> j) := by
  apply Int64.toBitVec_inj.mp
  rw [Int64.toBitVec_shiftRight]
  apply BitVec.eq_of_toNat_eq
  have e1 : (lN b).toBitVec.toNat = b := Nat.mod_eq_of_lt (by omega)
  have hm : (lN b).toBitVec.msb = false := by
    rw [BitVec.msb_eq_false_iff_two_mul_lt, e1]; omega
  have e2 : (lN (b >>> j)).toBitVec.toNat = b >>> j := Nat.mod_eq_of_lt (by
    rw [Nat.shiftRight_eq_div_pow]
    have := Nat.div_le_self b (2 ^ j)
    omega)
  rw [BitVec.toNat_sshiftRight'_of_msb_false hm, e1, e2]
  rw [hs]
theorem l_shl {j : Nat} (hj : j < 60) {s : Int64} (hs : (s.toBitVec.smod 64).toNat = j) : (1 : Int64) <<< s = lN (2 ^ j) := by
  apply Int64.toBitVec_inj.mp
  rw [Int64.toBitVec_shiftLeft]
  apply BitVec.eq_of_toNat_eq
  have hp : 2 ^ j < 2 ^ 60 := Nat.pow_lt_pow_right (by decide) hj
  have e2 : (lN (2 ^ j)).toBitVec.toNat = 2 ^ j := Nat.mod_eq_of_lt (by omega)
  rw [e2, BitVec.shiftLeft_eq', BitVec.toNat_shiftLeft]
  rw [hs]
  show 1 <<< j % 2 ^ 64 = 2 ^ j
  rw [Nat.one_shiftLeft]
  exact Nat.mod_eq_of_lt (by omega)
theorem bt_t {b j : Nat} (hb : b < 2 ^ 60) (hj : j < 60) : lg_cmp ((lN b >>> ((nI j).toInt64 &&& 63)) &&& 1) 0 = 0 ↔ b.testBit j = false := by
  rw [lg_cmp_eq, l_shr (j := j) (by omega) (sh_j ⟨j, hj⟩), show (1 : Int64) = lN 1 from rfl, lN_and, show (0 : Int64) = lN 0 from rfl, Nat.and_one_is_mod, Nat.shiftRight_eq_div_pow, pk_lEQ (by omega) (by omega), Nat.testBit_eq_decide_div_mod_eq, decide_eq_false_iff_not]
  omega
theorem c_unstrike {W : WW} {S : CS} (hV : VOK W.V) (hS : tC W.V S) {b : Nat} (hb : b < 2 ^ 60) : ∃ S', f_X1_unstrike S (lN b) = some S' ∧ ∃ g, S' = ca S 23 g ∧ ∀ j, j < W.V.n → g j = if b.testBit j = true then -1 else S.2.1 23 j := by
  have hn := hV.n
  unfold f_X1_unstrike L_X1_unstrike_2
  refine lq2 (Q := fun o => ∃ S', o = some S' ∧ ∃ g, S' = ca S 23 g ∧ ∀ j, j < W.V.n → g j = if b.testBit j = true then -1 else S.2.1 23 j) W.V.n (fun i S1 => ∃ g, S1 = ca S 23 g ∧ (∀ j, j < i → g j = if b.testBit j = true then -1 else S.2.1 23 j) ∧ ∀ j, i ≤ j → g j = S.2.1 23 j) ?_ 0 rfl (Nat.zero_le _) (FU_gt (by omega)) ⟨S.2.1 23, ?_, fun j hj => (by omega), fun _ _ => rfl⟩
  · rintro i S1 kk hi ⟨g, rfl, h1, h2⟩ hr
    have e6 : (ca S 23 g).1 6 = nI W.V.n := hS.n
    have e23 : (ca S 23 g).2.1 23 = g := by show up S.2.1 23 g 23 = g; exact up_eq
    rw [e6]
    by_cases c : i < W.V.n
    · rw [if_neg (fun h => by rw [nI_leI (by omega) (by omega)] at h; omega), chk_nI (by omega) (by decide), nI_clamp (by omega), e23, lt_eq, lt_eq, lt_eq, nI_1]
      have hcc : ∀ x, ca (ca S 23 g) 23 x = ca S 23 x := fun x => by
        unfold ca
        dsimp only
        congr 2
        funext j
        by_cases z : j = 23
        · subst z; rw [up_eq, up_eq]
        · rw [up_ne z, up_ne z, up_ne z]
      by_cases z : b.testBit i = false
      · rw [if_pos ((bt_t hb (by omega)).mpr z)]
        refine hr _ c ⟨g, rfl, fun j hj => ?_, fun j hj => h2 j (by omega)⟩
        by_cases y : j = i
        · subst y; rw [z, h2 j (Nat.le_refl _)]; rfl
        · exact h1 j (by omega)
      · rw [if_neg (fun h => z ((bt_t hb (by omega)).mp h)), hcc]
        refine hr _ c ⟨_, rfl, fun j hj => ?_, fun j hj => ?_⟩
        · by_cases y : j = i
          · subst y; rw [pk_us, if_pos (by cases q : b.testBit j with | true => rfl | false => exact absurd q z)]
          · rw [pk_un y]; exact h1 j (by omega)
        · rw [pk_un (by omega)]; exact h2 j (by omega)
    · have : i = W.V.n := by omega
      subst this
      rw [if_pos ((nI_leI (by omega) (by omega)).mpr (by omega))]
      exact ⟨_, rfl, g, rfl, h1⟩
  · unfold ca
    have : up S.2.1 23 (S.2.1 23) = S.2.1 := by
      funext j
      by_cases z : j = 23
      · subst z; rw [up_eq]
      · rw [up_ne z]
    rw [this]
/-- what is taken back of a strike -/
theorem dOK_sk {W : WW} {f : Nat → Int32} {b : Nat} (hw : WOK W) (hw2 : WOK (W.wV (W.V.wsk f))) (hb : b < 2 ^ 60) (hf : ∀ j, j < W.V.n → (b.testBit j = true → W.V.sk j = -1) ∧ (b.testBit j = false → f j = W.V.sk j)) : dOK (4, -1, -1, lN b, none) (W.wV (W.V.wsk f)) W := by
  intro S hS
  obtain ⟨S', u1, g, u2, u3⟩ := c_unstrike (W := W.wV (W.V.wsk f)) hw2.V hS.V hb
  refine ⟨S', ?_, ?_, ?_⟩
  · show f_X11_undo_4 S (lN b) = _
    unfold f_X11_undo_4
    rw [u1]; rfl
  · rw [u2]
    refine tW_wsk (W := W.wV (W.V.wsk f)) (f := W.V.sk) hS (fun j hj => ?_)
    rw [u3 j hj]
    have := hf j hj
    cases z : b.testBit j with
    | true => rw [if_pos rfl, this.1 z]
    | false => rw [if_neg (by decide), hS.V.sk j hj]; exact this.2 z
  · rw [u2]
    exact ⟨fun j hj => rfl, fun j hj => up_ne (fun z => hj (by rw [z]; decide))⟩
theorem d_strike {T : XS} {M : MS} (h : RLL T M) (a : Int32) : dRes T M (f_X11_strike T.1 a) (f_X12_strike M a) := by
  obtain ⟨W, Ws, hh⟩ := id h
  have hV := hh.w.V
  unfold f_X11_strike f_X12_strike
  rw [c_hasMark hV hh.c.V, m_isMark hV hh.m.R]
  simp only [bp_some]
  cases h1 : inR a W.V.n with
  | false => exact dRes_no h _
  | true =>
    obtain ⟨k, hk, rfl⟩ := inR_nI h1
    have kb := vk hV hk
    have hR := hh.m.R
    rw [if_pos rfl, if_pos rfl, m_o10 hV hR hk, bp_some]
    simp only [chk_nI (show k < 60 by omega) (by decide), nI_clamp (show k < 2 ^ 31 by omega), hh.c.V.sk k hk]
    by_cases c2 : W.V.sk k = -1
    · rw [if_pos c2, if_pos c2]
      obtain ⟨M2, m1, m2, m3, m4⟩ := m_deed hh
      obtain ⟨S2, s1, s2, s3, s4⟩ := c_add hh (S := T.1) rfl rfl
      have hA2 : tA W (M2.2 0) := by rw [m2.2 0 (by decide)]; exact hh.m
      have hW2 : tW W S2 := tW_gI hh.c s2 (by decide) (by decide)
      have hA3 := tA_sk hV hA2 hk (nI W.V.td)
      have e4 : (sa M2 0 (upd (M2.2 0) (65 + 11 * k + 10) (nI W.V.td))).2 0 (4 : Int32).toNatClampNeg = nI W.V.td := hA3.R.td
      unfold f_X12_markAt
      rw [s1, m1, bp_some, bp_some, bp_some, markAt_e (by omega) (by decide) (show (10 : Int32) = nI 10 from rfl)]
      simp only [chk_c4, m_A4 hA2.R, chk_nI (show 65 + 11 * k + 10 < 1177 by omega) (by decide), nI_clamp (show 65 + 11 * k + 10 < 2 ^ 31 by omega), lt_eq, hW2.V.td, e4]
      have e0 : (ca S2 23 (upd (S2.2.1 23) k (nI W.V.td))).1 0 = nI W.V.td := hW2.V.td
      have ebit : (1 : Int64) <<< ((nI k).toInt64 &&& 63) = lN (2 ^ k) := l_shl (by omega) (sh_j ⟨k, by omega⟩)
      rw [e0, ebit]
      have hg : gI [19, 20] [23] T.1 (ca S2 23 (upd (S2.2.1 23) k (nI W.V.td))) := gI_ca (gI_tr (ka := [23]) gI_rf s2 (by decide) (by decide)) (by decide)
      have hf : fI [3] [0, 1] M (sa M2 0 (upd (M2.2 0) (65 + 11 * k + 10) (nI W.V.td))) := fI_sa (fI_tr (ka := [0, 1]) fI_rf m2 (by decide) (by decide)) (by decide)
      refine ⟨_, _, rfl, rfl, ?_, afr_of hg hf (by decide) (by decide) (by decide) (by decide)⟩
      have hw2 : WOK (W.wV (W.V.wsk (upN W.V.sk k (nI W.V.td)))) := WOK_sk hh.w (fun j hj => by
        by_cases z : j = k
        · subst z; rw [upN_s]; exact Or.inr rfl
        · rw [upN_n z]; exact Or.inl rfl)
      refine RL_deed hh (W' := W.wV (W.V.wsk (upN W.V.sk k (nI W.V.td)))) hw2 (tW_wsk hW2 (fun j hj => ?_)) hA3 (rOK_d hh.r hg hf (by decide) (by decide) (by decide) (by decide) s4) s3 m3 (dOK_sk hh.w hw2 (Nat.pow_lt_pow_right (by decide) (by omega)) (fun j hj => ?_)) m4
      · by_cases z : j = k
        · subst z; rw [pk_us, upN_s]
        · rw [pk_un z, upN_n z]; exact hW2.V.sk j hj
      · by_cases z : j = k
        · subst z
          exact ⟨fun _ => c2, fun y => (by rw [Nat.testBit_two_pow_self] at y; cases y)⟩
        · exact ⟨fun y => (by rw [Nat.testBit_two_pow_of_ne (fun q => z q.symm)] at y; cases y), fun _ => upN_n z⟩
    · rw [if_neg c2, if_neg c2]; exact dRes_no h _
