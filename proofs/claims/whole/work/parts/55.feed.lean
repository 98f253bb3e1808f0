/-! the tape: feed, end -/
def tapeR (S : CS) (M : MS) (n : Nat) : Prop := n ≤ 600 ∧ S.1 1 = nI n ∧ M.1 5 = nI n ∧ ∀ i, i < n → (∃ b, b < 256 ∧ S.2.1 2 i = nI b) ∧ M.2 4 i &&& 255 = S.2.1 2 i
/-- reading leaves all but the tape, its place and what was read -/
theorem RL_t {T : XS} {M : MS} {S' : CS} {M' : MS} (h : RLL T M) (hS : gI [1, 2, 3, 4, 5] [2] T.1 S') (hM : fI [5, 6, 7, 8] [4] M M') {n : Nat} (ht : tapeR S' M' n) (hf : S'.1 5 = M'.1 7) : RLL (S', T.2) M' := by
  obtain ⟨W, Ws, h⟩ := h
  have hr := h.r
  refine ⟨W, Ws, h.w, tW_gI h.c hS (by decide) (by decide), ?_, ?_, h.d12, ?_, ?_, h.dl, h.dd, ?_⟩
  · rw [hM.2 0 (by decide)]; exact h.m
  · refine ⟨⟨n, ht⟩, hf, ?_, ?_, ?_, ?_, ?_, ?_⟩
    · rw [hM.1 21 (by decide)]; exact hr.ad
    · rw [hM.1 22 (by decide)]; exact hr.lf
    · rw [hS.1 17 (by decide), hM.1 29 (by decide), hS.2.1 33 (by decide), hM.2 27 (by decide)]; exact hr.ac
    · rw [hS.1 18 (by decide), hM.1 30 (by decide)]; exact hr.en
    · rw [hS.1 23 (by decide), hM.1 32 (by decide), hS.2.1 43 (by decide), hM.2 31 (by decide)]; exact hr.wr
    · rw [hS.1 19 (by decide)]; exact hr.rg
  · show S'.1 20 = _
    rw [hS.1 20 (by decide)]; exact h.dc
  · rw [hM.1 3 (by decide)]; exact h.dm
  · rw [hM.2 1 (by decide)]; exact h.dk
theorem q_end (T : XS) (M : MS) (a1 : Int32) (h : RLL T M) : ∃ (r : Int32) (T' : XS) (M' : MS), fo_end T a1 = some (r, T') ∧ fm_end M a1 = some (r, M') ∧ RLL T' M' := by
  obtain ⟨W, Ws, hh⟩ := id h
  obtain ⟨n, h1, h2, h3, h4⟩ := hh.r.tl
  unfold fo_end fm_end f_X11_end f_X12_end
  rw [h2, ite_le2 n (by omega) rfl, h3, isIn_le (by omega), bp_some]
  by_cases c : inR a1 (n + 1) = true
  · obtain ⟨m, hm, rfl⟩ := inR_nI c
    rw [if_pos c, if_pos c, lt_eq, lt_eq]
    refine ⟨_, _, _, rfl, rfl, RL_t h (gI_ci gI_rf (by decide)) (fI_si fI_rf (by decide)) (n := m) ⟨by omega, rfl, rfl, fun i hi => h4 i (by omega)⟩ hh.r.ft⟩
  · rw [if_neg c, if_neg c]
    exact ⟨_, _, _, rfl, rfl, h⟩
theorem i32_cond (x : Int32) : x.toInt = if 2 * x.toBitVec.toNat < 4294967296 then (x.toBitVec.toNat : Int) else (x.toBitVec.toNat : Int) - 4294967296 := BitVec.toInt_eq_toNat_cond x.toBitVec
theorem byt {w s : Int32} {k : Nat} (hk : k = 0 ∨ k = 8 ∨ k = 16 ∨ k = 24) (h1 : ((s &&& 31).toBitVec.smod 32).toNat = k) (h2 : ((s.toUInt32 &&& Int32.toUInt32 31).toBitVec % 32).toNat = k) : vp_nar .byte ((w >>> (s &&& 31)).toInt8.toInt32) &&& 255 = ((w.toUInt32 >>> (s.toUInt32 &&& Int32.toUInt32 31)).toInt32) &&& 255 ∧ ∃ b, b < 256 ∧ ((w.toUInt32 >>> (s.toUInt32 &&& Int32.toUInt32 31)).toInt32) &&& 255 = nI b := by
  have e2 := pk_ushr w s k h2
  have e1 := pk_shr w (s &&& 31) k h1
  rw [pk_vb, pk_and (m := 255) _ 8 (by decide), pk_and (m := 255) _ 8 (by decide), e2]
  generalize hz : w >>> (s &&& 31) = z at e1
  refine ⟨?_, _, Nat.mod_lt _ (by decide), rfl⟩
  congr 1
  have a1 := i32_cond w
  have a2 := i32_cond z.toInt8.toInt32
  rw [Int8.toInt_toInt32, Int32.toInt_toInt8, e1, Int.bmod_def] at a2
  have a3 := w.toBitVec.isLt
  have a4 := z.toInt8.toInt32.toBitVec.isLt
  rw [Int.shiftRight_eq_div_pow] at a2
  generalize w.toBitVec.toNat = t at *
  generalize z.toInt8.toInt32.toBitVec.toNat = y at *
  generalize w.toInt = i at *
  rcases hk with rfl | rfl | rfl | rfl
  · simp only [Nat.reducePow] at *
    split at a1 <;> split at a2 <;> split at a2 <;> omega
  · simp only [Nat.reducePow] at *
    split at a1 <;> split at a2 <;> split at a2 <;> omega
  · simp only [Nat.reducePow] at *
    split at a1 <;> split at a2 <;> split at a2 <;> omega
  · simp only [Nat.reducePow] at *
    split at a1 <;> split at a2 <;> split at a2 <;> omega
def cbt (w : Int32) (j : Nat) : Int32 := ((w.toUInt32 >>> ((nI (24 - 8 * j)).toUInt32 &&& Int32.toUInt32 31)).toInt32) &&& 255
def mbt (w : Int32) (j : Nat) : Int32 := vp_nar .byte ((w >>> (nI (24 - 8 * j) &&& 31)).toInt8.toInt32)
theorem byt_j {w : Int32} {j : Nat} (hj : j < 4) : mbt w j &&& 255 = cbt w j ∧ ∃ b, b < 256 ∧ cbt w j = nI b := by
  unfold mbt cbt
  have hc : j = 0 ∨ j = 1 ∨ j = 2 ∨ j = 3 := by omega
  rcases hc with rfl | rfl | rfl | rfl
  · exact byt (k := 24) (by omega) (by decide) (by decide)
  · exact byt (k := 16) (by omega) (by decide) (by decide)
  · exact byt (k := 8) (by omega) (by decide) (by decide)
  · exact byt (k := 0) (by omega) (by decide) (by decide)
theorem c_word {S : CS} {n : Nat} (w : Int32) (h : S.1 1 = nI n) (hn : n + 4 ≤ 600) : ∃ S', f_X10_addWord S w = some S' ∧ S'.1 1 = nI (n + 4) ∧ gI [1] [2] S S' ∧ (∀ i, i < n → S'.2.1 2 i = S.2.1 2 i) ∧ ∀ j, j < 4 → S'.2.1 2 (n + j) = cbt w j := by
  unfold f_X10_addWord L_X10_addWord_3
  refine lg2 (Q := fun o => ∃ S', o = some S' ∧ S'.1 1 = nI (n + 4) ∧ gI [1] [2] S S' ∧ (∀ i, i < n → S'.2.1 2 i = S.2.1 2 i) ∧ ∀ j, j < 4 → S'.2.1 2 (n + j) = cbt w j) (fun m S1 x => m ≤ 4 ∧ x = nI (8 * m) - 8 ∧ S1.1 1 = nI (n + (4 - m)) ∧ gI [1] [2] S S1 ∧ (∀ i, i < n → S1.2.1 2 i = S.2.1 2 i) ∧ ∀ j, j < 4 - m → S1.2.1 2 (n + j) = cbt w j) ?_ FU 4 S 24 (FU_gt (by omega)) ⟨by omega, by decide, h, gI_rf, fun i hi => rfl, fun j hj => by omega⟩
  rintro m S1 x kk ⟨hm, rfl, h1, hg, h2, h3⟩ hr
  cases m with
  | zero =>
    rw [if_pos (show nI (8 * 0) - 8 < 0 by decide)]
    exact ⟨S1, rfl, h1, hg, h2, h3⟩
  | succ t =>
    have ex : nI (8 * (t + 1)) - 8 = nI (8 * t) := by rw [show (8 : Int32) = nI 8 from rfl, pk_sub (by omega), show 8 * (t + 1) - 8 = 8 * t by omega]
    rw [ex, if_neg (nI_pos (by omega)), h1, if_neg (fun h => by rw [show (600 : Int32) = nI 600 from rfl, nI_leI (by omega) (by omega)] at h; omega), chk_nI (by omega) (by decide), nI_clamp (by omega)]
    simp only [lt_eq]
    refine hr t _ _ (by omega) ⟨by omega, ?_, ?_, gI_ci (gI_ca hg (by decide)) (by decide), ?_, ?_⟩
    · show nI (8 * t) + -8 = nI (8 * t) - 8
      rw [Int32.sub_eq_add_neg]
    · show S1.1 1 + 1 = _
      rw [h1, nI_1, show n + (4 - (t + 1)) + 1 = n + (4 - t) by omega]
    · intro i hi
      show upd (S1.2.1 2) _ _ i = _
      rw [pk_un (by omega)]; exact h2 i hi
    · intro j hj
      show upd (S1.2.1 2) _ _ (n + j) = _
      by_cases z : j = 4 - (t + 1)
      · rw [z, pk_us]
        unfold cbt
        rw [show 24 - 8 * (4 - (t + 1)) = 8 * t by omega]
      · rw [pk_un (by omega)]; exact h3 j (by omega)
theorem m_word {M : MS} {n : Nat} (w : Int32) (h : M.1 5 = nI n) (hn : n + 4 ≤ 600) : ∃ M', f_X12_four M w = some M' ∧ M'.1 5 = nI (n + 4) ∧ fI [5] [4] M M' ∧ (∀ i, i < n → M'.2 4 i = M.2 4 i) ∧ ∀ j, j < 4 → M'.2 4 (n + j) = mbt w j := by
  unfold f_X12_four L_X12_four_3
  refine lg2 (Q := fun o => ∃ M', o = some M' ∧ M'.1 5 = nI (n + 4) ∧ fI [5] [4] M M' ∧ (∀ i, i < n → M'.2 4 i = M.2 4 i) ∧ ∀ j, j < 4 → M'.2 4 (n + j) = mbt w j) (fun m M1 x => m ≤ 4 ∧ x = nI (8 * m) - 8 ∧ M1.1 5 = nI (n + (4 - m)) ∧ fI [5] [4] M M1 ∧ (∀ i, i < n → M1.2 4 i = M.2 4 i) ∧ ∀ j, j < 4 - m → M1.2 4 (n + j) = mbt w j) ?_ FU 4 M 24 (FU_gt (by omega)) ⟨by omega, by decide, h, fI_rf, fun i hi => rfl, fun j hj => by omega⟩
  rintro m M1 x kk ⟨hm, rfl, h1, hg, h2, h3⟩ hr
  cases m with
  | zero =>
    rw [if_pos (show nI (8 * 0) - 8 < 0 by decide)]
    exact ⟨M1, rfl, h1, hg, h2, h3⟩
  | succ t =>
    have ex : nI (8 * (t + 1)) - 8 = nI (8 * t) := by rw [show (8 : Int32) = nI 8 from rfl, pk_sub (by omega), show 8 * (t + 1) - 8 = 8 * t by omega]
    rw [ex, if_neg (nI_pos (by omega)), h1, chk_nI (by omega) (by decide), nI_clamp (by omega)]
    simp only [lt_eq]
    refine hr t _ _ (by omega) ⟨by omega, ?_, ?_, fI_si (fI_sa hg (by decide)) (by decide), ?_, ?_⟩
    · show nI (8 * t) + -8 = nI (8 * t) - 8
      rw [Int32.sub_eq_add_neg]
    · show M1.1 5 + 1 = _
      rw [h1, nI_1, show n + (4 - (t + 1)) + 1 = n + (4 - t) by omega]
    · intro i hi
      show upd (M1.2 4) _ _ i = _
      rw [pk_un (by omega)]; exact h2 i hi
    · intro j hj
      show upd (M1.2 4) _ _ (n + j) = _
      by_cases z : j = 4 - (t + 1)
      · rw [z, pk_us]
        unfold mbt
        rw [show 24 - 8 * (4 - (t + 1)) = 8 * t by omega]
      · rw [pk_un (by omega)]; exact h3 j (by omega)
theorem x_word {S : CS} {M : MS} {n : Nat} (w : Int32) (ht : tapeR S M n) (hn : n + 4 ≤ 600) : ∃ S' M', f_X10_addWord S w = some S' ∧ f_X12_four M w = some M' ∧ gI [1] [2] S S' ∧ fI [5] [4] M M' ∧ tapeR S' M' (n + 4) := by
  obtain ⟨t1, t2, t3, t4⟩ := ht
  obtain ⟨S', a1, a2, a3, a4, a5⟩ := c_word w t2 hn
  obtain ⟨M', b1, b2, b3, b4, b5⟩ := m_word w t3 hn
  refine ⟨S', M', a1, b1, a3, b3, hn, a2, b2, fun i hi => ?_⟩
  by_cases z : i < n
  · rw [a4 i z, b4 i z]; exact t4 i z
  · obtain ⟨j, rfl⟩ : ∃ j, i = n + j := ⟨i - n, by omega⟩
    rw [a5 j (by omega), b5 j (by omega)]
    have := byt_j (w := w) (j := j) (by omega)
    exact ⟨this.2, this.1⟩
theorem q_feed (T : XS) (M : MS) (a1 a2 a3 a4 a5 : Int32) (h : RLL T M) : ∃ (r : Int32) (T' : XS) (M' : MS), fo_feed T a1 a2 a3 a4 a5 = some (r, T') ∧ fm_feed M a1 a2 a3 a4 a5 = some (r, M') ∧ RLL T' M' := by
  obtain ⟨W, Ws, hh⟩ := id h
  obtain ⟨n, ht⟩ := hh.r.tl
  have ht : tapeR T.1 M n := ht
  have t1 := ht.1
  unfold fo_feed fm_feed f_X11_feed f_X12_feed
  rw [ht.2.1, ht.2.2.1, show (20 : Int32) = nI 20 from rfl, nI_add, show (600 : Int32) = nI 600 from rfl]
  by_cases c : n + 20 ≤ 600
  · rw [if_pos ((nI_leI (by omega) (by omega)).mpr c), if_pos ((nI_leI (by omega) (by omega)).mpr c)]
    obtain ⟨S1, M1, x1, y1, g1, f1, r1⟩ := x_word a1 ht (by omega)
    obtain ⟨S2, M2, x2, y2, g2, f2, r2⟩ := x_word a2 r1 (by omega)
    obtain ⟨S3, M3, x3, y3, g3, f3, r3⟩ := x_word a3 r2 (by omega)
    obtain ⟨S4, M4, x4, y4, g4, f4, r4⟩ := x_word a4 r3 (by omega)
    obtain ⟨S5, M5, x5, y5, g5, f5, r5⟩ := x_word a5 r4 (by omega)
    simp only [x1, x2, x3, x4, x5, y1, y2, y3, y4, y5, bp_some, bw_some]
    have hg : gI [1] [2] T.1 S5 := gI_tr (gI_tr (gI_tr (gI_tr g1 g2 (by decide) (by decide)) g3 (by decide) (by decide)) g4 (by decide) (by decide)) g5 (by decide) (by decide)
    have hf : fI [5] [4] M M5 := fI_tr (fI_tr (fI_tr (fI_tr f1 f2 (by decide) (by decide)) f3 (by decide) (by decide)) f4 (by decide) (by decide)) f5 (by decide) (by decide)
    refine ⟨S5.1 1, _, _, rfl, by rw [r5.2.1, r5.2.2.1], RL_t h (gI_tr gI_rf hg (by decide) (by decide)) (fI_tr fI_rf hf (by decide) (by decide)) r5 ?_⟩
    rw [hg.1 5 (by decide), hf.1 7 (by decide)]; exact hh.r.ft
  · rw [if_neg (fun h => c ((nI_leI (by omega) (by omega)).mp h)), if_neg (fun h => c ((nI_leI (by omega) (by omega)).mp h))]
    exact ⟨_, _, _, rfl, rfl, h⟩
