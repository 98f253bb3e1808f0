/-! all items of a text -/
def tLQ (S0 : CS) (M0 : MS) (W0 : WW) (KM : MS → Int32 → Option (Int32 × MS)) (oc : Option (Int32 × CS)) (om : Option (Int32 × MS)) : Prop := ∃ S' M' W', tF S0 M0 S' M' ∧ WOK W' ∧ tW W' S' ∧ pre W0 W' ∧ ((∃ k, k ≤ 600 ∧ oc = some (nI k, S') ∧ om = KM M' 1 ∧ tA W' (M'.2 0) ∧ szS W'.V = szS W0.V + k) ∨ (oc = some (-1, S') ∧ om = KM M' 0))
theorem tF_tr {S0 S S' : CS} {M0 M M' : MS} (h : tF S0 M0 S M) (h2 : tF S M S' M') : tF S0 M0 S' M' := ⟨gI_tr h.1 h2.1 (fun _ z => z) (fun _ z => z), fI_tr h.2.1 h2.2.1 (fun _ z => z) (fun _ z => z), h2.2.2⟩
theorem t_over {bb : Nat → Nat} {n : Nat} (S0 : CS) (M0 : MS) (W0 : WW) (KM : MS → Int32 → Option (Int32 × MS)) {f : Nat} {S : CS} {M : MS} {W : WW} {p k : Nat} {td : Int32} (ho : bbO bb n) (h : rdS bb n p S) (hm : rdM bb n p M) (hp : p ≤ n) (hn : ¬ p < n) (hk : k ≤ p) (hw : WOK W) (hW : tW W S) (hA : tA W (M.2 0)) (hpr : pre W0 W) (hsz : szS W.V = szS W0.V + k) (hF : tF S0 M0 S M) : tLQ S0 M0 W0 KM (L_X6_readItems_2 td (fun S13 x14 => some (x14, S13)) (f + 1) S (nI k)) (L_X12_text_38 KM (f + 1) M 1) := by
  have hn6 := ho.n
  refine ⟨S, M, W, hF, hw, hW, hpr, Or.inl ⟨k, by omega, ?_, ?_, hA, hsz⟩⟩
  · unfold L_X6_readItems_2
    rw [lo2_succ]
    unfold f_X10_isOver
    by_cases z : 600 ≤ k
    · rw [if_pos ((show (600 : Int32) = nI 600 from rfl) ▸ (nI_leI (by omega) (by omega)).mpr z)]
    · rw [if_neg (fun q => by rw [show (600 : Int32) = nI 600 from rfl, nI_leI (by omega) (by omega)] at q; omega), h.l, h.p, if_neg (fun q => by rw [nI_ltI (by omega) (by omega)] at q; omega), bp_some, if_pos rfl]
  · unfold L_X12_text_38
    rw [lo2_succ]
    rw [if_neg (by decide), hm.l, hm.p, if_pos ((nI_leI (by omega) (by omega)).mpr (by omega))]
theorem t_loop {bb : Nat → Nat} {n : Nat} (S0 : CS) (M0 : MS) (W0 : WW) (KM : MS → Int32 → Option (Int32 × MS)) (ho : bbO bb n) : ∀ (f : Nat) (S : CS) (M : MS) (W : WW) (p k : Nat), n - p ≤ f → rdS bb n p S → rdM bb n p M → p ≤ n → k ≤ p → WOK W → tW W S → tA W (M.2 0) → pre W0 W → szS W.V = szS W0.V + k → tF S0 M0 S M → tLQ S0 M0 W0 KM (L_X6_readItems_2 (nI W0.V.td) (fun S13 x14 => some (x14, S13)) (f + 1 + 1) S (nI k)) (L_X12_text_38 KM (f + 1 + 1) M 1) := by
  have hn6 := ho.n
  intro f
  induction f with
  | zero => intro S M W p k hnp h hm hp hk hw hW hA hpr hsz hF; exact t_over S0 M0 W0 KM ho h hm hp (by omega) hk hw hW hA hpr hsz hF
  | succ f ih =>
    intro S M W p k hnp h hm hp hk hw hW hA hpr hsz hF
    by_cases c : p < n
    · have ht := t_item ho hw h hm c hW hA hF.2.2
      rw [hpr.td] at ht
      have e1 : ∀ o S', f_X6_readItem S (nI W0.V.td) = some (o, S') → L_X6_readItems_2 (nI W0.V.td) (fun S13 x14 => some (x14, S13)) (f + 1 + 1 + 1) S (nI k) = (if o = true then L_X6_readItems_2 (nI W0.V.td) (fun S13 x14 => some (x14, S13)) (f + 1 + 1) S' (nI (k + 1)) else some (-1, S')) := by
        intro o S' q1
        unfold L_X6_readItems_2
        rw [lo2_succ]
        unfold f_X10_isOver
        rw [h.l, h.p, if_neg (fun z => by rw [show (600 : Int32) = nI 600 from rfl, nI_leI (by omega) (by omega)] at z; omega), if_pos ((nI_ltI (by omega) (by omega)).mpr c), bp_some, if_neg (by decide), q1, bw_some, lt_eq, nI_1]
      have e2 : ∀ o M', f_X12_readItem M = some (o, M') → L_X12_text_38 KM (f + 1 + 1 + 1) M 1 = L_X12_text_38 KM (f + 1 + 1) M' (b2 o) := by
        intro o M' q2
        unfold L_X12_text_38
        rw [lo2_succ]
        rw [if_neg (by decide), hm.l, hm.p, if_neg (fun z => by rw [nI_leI (by omega) (by omega)] at z; omega), q2, bw_some, lt_eq]
      rcases ht with ⟨S', M', q1, q2, W', p', g1, g2, g3, g4, g5, g6, g7, g8, g9, g10⟩ | ⟨S', M', q1, q2, g6, g10⟩
      · rw [e1 _ _ q1, e2 _ _ q2, if_pos rfl]
        exact ih S' M' W' p' (k + 1) (by omega) g3 g4 g2 (by omega) g5 g6 g7 (pre_tr hpr g8) (by omega) (tF_tr hF g10)
      · rw [e1 _ _ q1, e2 _ _ q2, if_neg (by decide)]
        refine ⟨S', M', W, tF_tr hF g10, hw, g6, hpr, Or.inr ⟨rfl, ?_⟩⟩
        unfold L_X12_text_38
        rw [lo2_succ]
        rw [if_pos (by rfl)]; rfl
    · exact t_over S0 M0 W0 KM ho h hm hp c hk hw hW hA hpr hsz hF
