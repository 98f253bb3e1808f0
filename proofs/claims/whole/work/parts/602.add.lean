theorem c_add {T : XS} {M : MS} {W : WW} {Ws : List WW} (h : RLW T M W Ws) {S : CS} (e19 : S.1 19 = T.1.1 19) (e20 : S.1 20 = T.1.1 20) : ∃ S', f_X3_add S = some S' ∧ gI [19, 20] [] S S' ∧ S'.1 20 = nI (min (T.2.length + 1) 12) ∧ ∃ n, n < 12 ∧ S'.1 19 = nI n := by
  obtain ⟨n, hn, e⟩ := h.r.rg
  have h12 := h.d12
  unfold f_X3_add
  rw [e19, e, chk_nI hn (by decide), lt_eq, lt_eq]
  refine ⟨_, rfl, gI_ci (gI_ci gI_rf (by decide)) (by decide), ?_, (n + 1) % 12, Nat.mod_lt _ (by decide), ?_⟩
  · show (if 12 < (S.1 20) + 1 then 12 else (S.1 20) + 1) = _
    rw [e20, h.dc, nI_1, show (12 : Int32) = nI 12 from rfl]
    by_cases z : 12 < T.2.length + 1
    · rw [if_pos ((nI_ltI (by omega) (by omega)).mpr z), show min (T.2.length + 1) 12 = 12 by omega]
    · rw [if_neg (fun hh => z ((nI_ltI (by omega) (by omega)).mp hh)), show min (T.2.length + 1) 12 = T.2.length + 1 by omega]
  · show nI n + 1 - (nI n + 1) / 12 * 12 = _
    rw [nI_1, show (12 : Int32) = nI 12 from rfl, pk_rem (by omega) (by decide) (by decide)]
theorem dch_take : ∀ (n : Nat) (ds : List DR) (W : WW) (Ws : List WW), dch ds W Ws → dch (ds.take n) W (Ws.take n) := by
  intro n
  induction n with
  | zero => intro ds W Ws _; trivial
  | succ n ih =>
    intro ds W Ws h
    cases ds with
    | nil => cases Ws with
      | nil => trivial
      | cons a as => exact absurd h (by unfold dch; exact id)
    | cons d ds => cases Ws with
      | nil => exact absurd h (by unfold dch; exact id)
      | cons a as => exact ⟨h.1, h.2.1, ih ds a as h.2.2⟩
/-- a deed is done -/
theorem RL_deed {T : XS} {M : MS} {W W' : WW} {Ws : List WW} (h : RLW T M W Ws) {S' : CS} {M' : MS} {d : DR} (hW : WOK W') (hc : tW W' S') (hm : tA W' (M'.2 0)) (hr : rOK S' M') (h20 : S'.1 20 = nI (min (T.2.length + 1) 12)) (h3 : M'.1 3 = nI (min (T.2.length + 1) 12)) (hd : dOK d W' W) (hk : ∀ (j : Nat) (W1 : WW), ((W :: Ws).take 12)[j]? = some W1 → tA W1 (fun i => M'.2 1 (1177 * (((W :: Ws).take 12).length - 1 - j) + i))) : RLL (S', addd d T.2) M' := by
  have hl : (addd d T.2).length = min (T.2.length + 1) 12 := by
    unfold addd
    rw [List.length_take, List.length_cons, Nat.min_comm]
  refine ⟨W', (W :: Ws).take 12, hW, hc, hm, hr, ?_, ?_, ?_, ?_, ?_, hk⟩
  · show (addd d T.2).length ≤ 12
    rw [hl]; omega
  · show S'.1 20 = nI (addd d T.2).length
    rw [hl]; exact h20
  · show M'.1 3 = nI (addd d T.2).length
    rw [hl]; exact h3
  · show ((W :: Ws).take 12).length = (addd d T.2).length
    rw [hl, List.length_take, List.length_cons, h.dl, Nat.min_comm]
  · exact dch_take 12 (d :: T.2) W' (W :: Ws) ⟨hd, h.w, h.dd⟩
/-- the rest stays as it was -/
theorem rOK_fr {S S' : CS} {M M' : MS} (hr : rOK S M) (h1 : ∀ k, k ∈ [1, 5, 17, 18, 23] → S'.1 k = S.1 k) (h2 : ∀ k, k ∈ [2, 33, 43] → S'.2.1 k = S.2.1 k) (h3 : ∀ k, k ∈ [5, 7, 21, 22, 29, 30, 32] → M'.1 k = M.1 k) (h4 : ∀ k, k ∈ [4, 27, 31] → M'.2 k = M.2 k) (h19 : ∃ n, n < 12 ∧ S'.1 19 = nI n) : rOK S' M' := by
  refine ⟨?_, ?_, ?_, ?_, ?_, ?_, ?_, h19⟩
  · rw [h1 1 (by decide), h3 5 (by decide), h2 2 (by decide), h4 4 (by decide)]; exact hr.tl
  · rw [h1 5 (by decide), h3 7 (by decide)]; exact hr.ft
  · rw [h3 21 (by decide)]; exact hr.ad
  · rw [h3 22 (by decide)]; exact hr.lf
  · rw [h1 17 (by decide), h3 29 (by decide), h2 33 (by decide), h4 27 (by decide)]; exact hr.ac
  · rw [h1 18 (by decide), h3 30 (by decide)]; exact hr.en
  · rw [h1 23 (by decide), h3 32 (by decide), h2 43 (by decide), h4 31 (by decide)]; exact hr.wr
