/-! one item of a text -/
def cAll : List Nat := [5, 6, 8, 9, 11, 12, 13, 14, 15, 16, 17, 18, 19, 20, 21, 22, 23, 24]
def tF (S0 : CS) (M0 : MS) (S : CS) (M : MS) : Prop := gI [2, 3, 4, 5, 6, 7, 8, 9] cAll S0 S ∧ fI [6, 7, 8] [0] M0 M ∧ S.1 5 = M.1 7
def tG (bb : Nat → Nat) (n : Nat) (W : WW) (S0 : CS) (M0 : MS) (p : Nat) (S : CS) (M : MS) : Prop := ∃ W' p', p < p' ∧ p' ≤ n ∧ rdS bb n p' S ∧ rdM bb n p' M ∧ WOK W' ∧ tW W' S ∧ tA W' (M.2 0) ∧ pre W W' ∧ szS W'.V = szS W.V + 1 ∧ tF S0 M0 S M
def tQ (bb : Nat → Nat) (n : Nat) (W : WW) (S : CS) (M : MS) (p : Nat) (oc : Option (Bool × CS)) (om : Option (Bool × MS)) : Prop := (∃ S' M', oc = some (true, S') ∧ om = some (true, M') ∧ tG bb n W S M p S' M') ∨ (∃ S' M', oc = some (false, S') ∧ om = some (false, M') ∧ tW W S' ∧ tF S M S' M')
theorem tF_i {V : VW} {S0 S : CS} {M0 M : MS} (h : iF V S0 M0 S M) : tF S0 M0 S M := ⟨gI_tr gI_rf h.1.1 (by decide) (by decide), h.2.1, h.2.2⟩
theorem FU_10 : FU = 19990 + 8 + 1 + 1 := rfl
theorem t_fin_e {bb : Nat → Nat} {n p : Nat} {W : WW} {S : CS} {M : MS} {ex : MS → Prop} {oc : Option (Bool × CS)} {om : Option (Bool × MS)} (hw : WOK W) (hW : tW W S) (hA : tA W (M.2 0)) (hm : W.V.ne < 6) (h : iQ bb n W.V S M p 0 2 (fun S29 => bp (f_X1_settle S29 (nI 0)) (fun S30 => some (true, S30))) ex oc om) : tQ bb n W S M p oc om := by
  rcases h with ⟨S1, M1, v, q1, q2, ⟨p', a1, a2, a3, a4, a5, a6, a7, a8, a9, a10, a11, a12⟩, _⟩ | ⟨S1, M1, q1, q2, q3⟩
  · have hW1 : tW W S1 := tW_keep hW a5
    have q1 : oc = bp (f_X1_settle S1 (nI 0)) (fun S30 => some (true, S30)) := q1
    rw [se_e hW1.V hm, bp_some] at q1
    refine Or.inl ⟨_, M1, q1, q2, W.wV (W.V.ade (v 0) (v 1)), p', a1, a2, ⟨a3.l, a3.p, a3.b⟩, a4, WOK_e hw v hm a9, tW_e v hW1 a6, tA_e hw v hA hm a10 a11 a12, pre_e hw v, ?_, gI_ci (gI_tr gI_rf a5.1 (by decide) (by decide)) (by decide), a7, a8⟩
    show W.V.ne + 1 + W.V.np + W.V.na + W.V.n = W.V.ne + W.V.np + W.V.na + W.V.n + 1
    omega
  · exact Or.inr ⟨S1, M1, q1, q2, tW_keep hW q3.1, tF_i q3⟩
theorem t_fin_p {bb : Nat → Nat} {n p : Nat} {W : WW} {S : CS} {M : MS} {ex : MS → Prop} {oc : Option (Bool × CS)} {om : Option (Bool × MS)} (hw : WOK W) (hW : tW W S) (hA : tA W (M.2 0)) (hm : W.V.np < 8) (h : iQ bb n W.V S M p 1 2 (fun S29 => bp (f_X1_settle S29 (nI 1)) (fun S30 => some (true, S30))) ex oc om) : tQ bb n W S M p oc om := by
  rcases h with ⟨S1, M1, v, q1, q2, ⟨p', a1, a2, a3, a4, a5, a6, a7, a8, a9, a10, a11, a12⟩, _⟩ | ⟨S1, M1, q1, q2, q3⟩
  · have hW1 : tW W S1 := tW_keep hW a5
    have q1 : oc = bp (f_X1_settle S1 (nI 1)) (fun S30 => some (true, S30)) := q1
    rw [se_p hW1.V hm, bp_some] at q1
    refine Or.inl ⟨_, M1, q1, q2, W.wV (W.V.adp (v 0) (v 1)), p', a1, a2, ⟨a3.l, a3.p, a3.b⟩, a4, WOK_p hw v hm a9, tW_p v hW1 a6, tA_p hw v hA hm a10 a11 a12, pre_p hw v, ?_, gI_ci (gI_tr gI_rf a5.1 (by decide) (by decide)) (by decide), a7, a8⟩
    show W.V.ne + (W.V.np + 1) + W.V.na + W.V.n = W.V.ne + W.V.np + W.V.na + W.V.n + 1
    omega
  · exact Or.inr ⟨S1, M1, q1, q2, tW_keep hW q3.1, tF_i q3⟩
theorem t_fin_a {bb : Nat → Nat} {n p : Nat} {W : WW} {S : CS} {M : MS} {ex : MS → Prop} {oc : Option (Bool × CS)} {om : Option (Bool × MS)} (hw : WOK W) (hW : tW W S) (hA : tA W (M.2 0)) (hm : W.V.na < 16) (h : iQ bb n W.V S M p 2 2 (fun S29 => bp (f_X1_settle S29 (nI 2)) (fun S30 => some (true, S30))) ex oc om) : tQ bb n W S M p oc om := by
  rcases h with ⟨S1, M1, v, q1, q2, ⟨p', a1, a2, a3, a4, a5, a6, a7, a8, a9, a10, a11, a12⟩, _⟩ | ⟨S1, M1, q1, q2, q3⟩
  · have hW1 : tW W S1 := tW_keep hW a5
    have q1 : oc = bp (f_X1_settle S1 (nI 2)) (fun S30 => some (true, S30)) := q1
    rw [se_a hW1.V hm, bp_some] at q1
    refine Or.inl ⟨_, M1, q1, q2, W.wV (W.V.ada (v 0) (v 1)), p', a1, a2, ⟨a3.l, a3.p, a3.b⟩, a4, WOK_a hw v hm a9, tW_a v hW1 a6, tA_a hw v hA hm a10 a11 a12, pre_a hw v, ?_, gI_ci (gI_tr gI_rf a5.1 (by decide) (by decide)) (by decide), a7, a8⟩
    show W.V.ne + W.V.np + (W.V.na + 1) + W.V.n = W.V.ne + W.V.np + W.V.na + W.V.n + 1
    omega
  · exact Or.inr ⟨S1, M1, q1, q2, tW_keep hW q3.1, tF_i q3⟩
theorem t_fin_m {bb : Nat → Nat} {n p : Nat} {W : WW} {S : CS} {M : MS} {oc : Option (Bool × CS)} {om : Option (Bool × MS)} (hw : WOK W) (hW : tW W S) (hA : tA W (M.2 0)) (hm : W.V.n < 60) (h : iQ bb n W.V S M p 3 11 (fun S29 => bp (f_X1_settle S29 (nI 3)) (fun S30 => some (true, S30))) (fun M3 => M3.2 0 (rb W.V 3 + 9) = -1 ∧ M3.2 0 (rb W.V 3 + 10) = -1) oc om) : tQ bb n W S M p oc om := by
  rcases h with ⟨S1, M1, v, q1, q2, ⟨p', a1, a2, a3, a4, a5, a6, a7, a8, a9, a10, a11, a12⟩, x1, x2⟩ | ⟨S1, M1, q1, q2, q3⟩
  · have hW1 : tW W S1 := tW_keep hW a5
    have hv := mO_of hw.V a9
    obtain ⟨i, S2, i1, i2, i3, i4, i5, i6⟩ := se_m hw v hm hv hW1 a6
    have q1 : oc = bp (f_X1_settle S1 (nI 3)) (fun S30 => some (true, S30)) := q1
    rw [i2, bp_some] at q1
    refine Or.inl ⟨_, M1, q1, q2, W.adm v i, p', a1, a2, rdS_gI a3 i3 (by decide) (by decide) (by rw [i3.1 2 (by decide)]; exact a3.p), a4, WOK_m hw v hm hv i1 i5 i6, i4, tA_m hw v i hA hm hv a10 a11 a12 x1 x2, pre_m hw v i, ?_, gI_tr (gI_tr gI_rf a5.1 (by decide) (by decide)) i3 (by decide) (by decide), a7, ?_⟩
    · show W.V.ne + W.V.np + W.V.na + (W.V.n + 1) = W.V.ne + W.V.np + W.V.na + W.V.n + 1
      omega
    · rw [i3.1 5 (by decide)]; exact a8
  · exact Or.inr ⟨S1, M1, q1, q2, tW_keep hW q3.1, tF_i q3⟩
theorem t_bad {bb : Nat → Nat} {n p : Nat} {W : WW} {S : CS} {M : MS} (hW : tW W S) (h : rdS bb n p S) (hm : rdM bb n p M) : tQ bb n W S M p (some (false, ci S 5 (S.1 2))) (some (false, si M 7 (M.1 6))) :=
  Or.inr ⟨_, _, rfl, rfl, tW_gI hW (gI_ci (ks := [5]) (ka := []) gI_rf (by decide)) (by decide) (by decide), gI_ci gI_rf (by decide), fI_si fI_rf (by decide), by show S.1 2 = M.1 6; rw [h.p, hm.p]⟩
theorem c_openI {bb : Nat → Nat} {n p c : Nat} {V : VW} {S : CS} {td : Int32} (ho : bbO bb n) (h : rdS bb n p S) (hp : p < n) (hV : VOK V) (hT : tC V S) (hc : c < 4) (hl : lx_0 bb n p = nI c) : f_X6_readItem S td = if cnt V c < mx c then L_X6_readItem_59 td (nI c) (nI (fO c)) (fun S29 => bp (f_X1_settle S29 (nI c)) (fun S30 => some (true, S30))) FU (ci S 2 (S.1 2 + 1)) (nI 0) else some (false, ci S 5 (S.1 2)) := by
  unfold f_X6_readItem
  rw [c_peek ho h (by omega), bp_some, ix_0_sg ho, bp_some, hl]
  simp only [jn0, jn1]
  rw [if_neg (nI_pos (by omega)), c_isFull hV hT hc, bp_some]
  unfold f_X10_failHere f_X10_step
  rw [lt_eq, bw_some, lt_eq, bp_some]
  by_cases z : cnt V c < mx c
  · rw [if_pos z, decide_eq_false (fun q => q z), if_neg (by decide)]
    by_cases c3 : c = 3
    · subst c3
      rw [if_pos (show nI 3 = 3 from rfl), show (9 : Int32) = nI (fO 3) from rfl, show (0 : Int32) = nI 0 from rfl]
    · rw [if_neg (show ¬ nI c = 3 from fun e => c3 ((nI_eq (b := 3) (by omega) (by omega)).mp e)), show fO c = 2 from if_neg c3, show (2 : Int32) = nI 2 from rfl, show (0 : Int32) = nI 0 from rfl]
  · rw [if_neg z, decide_eq_true z, if_pos rfl]
theorem t_one_e {bb : Nat → Nat} {n p : Nat} {W : WW} {S : CS} {M : MS} (ho : bbO bb n) (hw : WOK W) (h : rdS bb n p S) (hm : rdM bb n p M) (hp : p < n) (hW : tW W S) (hA : tA W (M.2 0)) (hf : S.1 5 = M.1 7) (hb : bb p = 101) : tQ bb n W S M p (f_X6_readItem S (nI W.V.td)) (f_X12_readItem M) := by
  have hs : sg bb n p = nI 101 := by unfold sg; rw [if_pos hp, hb]
  have hl : lx_0 bb n p = nI 0 := by
    unfold lx_0
    rw [if_pos hp, hb]
    exact plc_at (by decide) rfl (by decide)
  have hk : M.2 0 0 = nI W.V.ne := hA.R.ne
  have hmx := hw.V.ne
  have em : f_X12_readItem M = f_X12_readTwo M (nI 0) (nI 5) (nI 6) 0 1 (-1) 99 := by
    unfold f_X12_readItem
    rw [m_here ho hm (by omega), bp_some, hs, if_neg (show ¬ nI 101 = 97 by decide), if_pos (show nI 101 = 101 from rfl), bw_id]
    rfl
  rw [em, c_openI ho h hp hw.V hW.V (by decide) hl]
  by_cases z : W.V.ne < 6
  · rw [if_pos (show cnt W.V 0 < mx 0 from z), m_two_n (by decide) hk z (by decide)]
    have hi := i_two (K := fun S29 => bp (f_X1_settle S29 (nI 0)) (fun S30 => some (true, S30))) ho hw.V (fun S' hS' => (tW_keep hW hS').V) (by decide) (show cnt W.V 0 < mx 0 from z) (i_init (V := W.V) (c := 0) (fun _ => 0) h hm hp hf) hk
    rw [show rb W.V 0 = 5 + 2 * W.V.ne from rfl, show loI 0 0 = 0 from rfl, show loI 0 1 = (-1) from rfl, show hiI W.V 0 0 = 1 from rfl, show hiI W.V 0 1 = 99 from rfl] at hi
    exact t_fin_e hw hW hA z hi
  · have e6 : W.V.ne = 6 := by omega
    rw [e6] at hk
    rw [if_neg (show ¬ cnt W.V 0 < mx 0 from z), m_two_f (by decide) hk]
    exact t_bad hW h hm
theorem t_one_p {bb : Nat → Nat} {n p : Nat} {W : WW} {S : CS} {M : MS} (ho : bbO bb n) (hw : WOK W) (h : rdS bb n p S) (hm : rdM bb n p M) (hp : p < n) (hW : tW W S) (hA : tA W (M.2 0)) (hf : S.1 5 = M.1 7) (hb : bb p = 112) : tQ bb n W S M p (f_X6_readItem S (nI W.V.td)) (f_X12_readItem M) := by
  have hs : sg bb n p = nI 112 := by unfold sg; rw [if_pos hp, hb]
  have hl : lx_0 bb n p = nI 1 := by
    unfold lx_0
    rw [if_pos hp, hb]
    exact plc_at (by decide) rfl (by decide)
  have hk : M.2 0 1 = nI W.V.np := hA.R.np
  have hmx := hw.V.np
  have em : f_X12_readItem M = f_X12_readTwo M (nI 1) (nI 17) (nI 8) 0 5 0 5000 := by
    unfold f_X12_readItem
    rw [m_here ho hm (by omega), bp_some, hs, if_neg (show ¬ nI 112 = 97 by decide), if_neg (show ¬ nI 112 = 101 by decide), if_neg (show ¬ nI 112 = 109 by decide), if_pos (show nI 112 = 112 from rfl), bw_id]
    rfl
  rw [em, c_openI ho h hp hw.V hW.V (by decide) hl]
  by_cases z : W.V.np < 8
  · rw [if_pos (show cnt W.V 1 < mx 1 from z), m_two_n (by decide) hk z (by decide)]
    have hi := i_two (K := fun S29 => bp (f_X1_settle S29 (nI 1)) (fun S30 => some (true, S30))) ho hw.V (fun S' hS' => (tW_keep hW hS').V) (by decide) (show cnt W.V 1 < mx 1 from z) (i_init (V := W.V) (c := 1) (fun _ => 0) h hm hp hf) hk
    rw [show rb W.V 1 = 17 + 2 * W.V.np from rfl, show loI 1 0 = 0 from rfl, show loI 1 1 = 0 from rfl, show hiI W.V 1 0 = 5 from rfl, show hiI W.V 1 1 = 5000 from rfl] at hi
    exact t_fin_p hw hW hA z hi
  · have e6 : W.V.np = 8 := by omega
    rw [e6] at hk
    rw [if_neg (show ¬ cnt W.V 1 < mx 1 from z), m_two_f (by decide) hk]
    exact t_bad hW h hm
theorem t_one_a {bb : Nat → Nat} {n p : Nat} {W : WW} {S : CS} {M : MS} (ho : bbO bb n) (hw : WOK W) (h : rdS bb n p S) (hm : rdM bb n p M) (hp : p < n) (hW : tW W S) (hA : tA W (M.2 0)) (hf : S.1 5 = M.1 7) (hb : bb p = 97) : tQ bb n W S M p (f_X6_readItem S (nI W.V.td)) (f_X12_readItem M) := by
  have hs : sg bb n p = nI 97 := by unfold sg; rw [if_pos hp, hb]
  have hl : lx_0 bb n p = nI 2 := by
    unfold lx_0
    rw [if_pos hp, hb]
    exact plc_at (by decide) rfl (by decide)
  have hk : M.2 0 2 = nI W.V.na := hA.R.na
  have hmx := hw.V.na
  have em : f_X12_readItem M = f_X12_readTwo M (nI 2) (nI 33) (nI 16) (-30000) 20000 0 5 := by
    unfold f_X12_readItem
    rw [m_here ho hm (by omega), bp_some, hs, if_pos (show nI 97 = 97 from rfl), bw_id]
    rfl
  rw [em, c_openI ho h hp hw.V hW.V (by decide) hl]
  by_cases z : W.V.na < 16
  · rw [if_pos (show cnt W.V 2 < mx 2 from z), m_two_n (by decide) hk z (by decide)]
    have hi := i_two (K := fun S29 => bp (f_X1_settle S29 (nI 2)) (fun S30 => some (true, S30))) ho hw.V (fun S' hS' => (tW_keep hW hS').V) (by decide) (show cnt W.V 2 < mx 2 from z) (i_init (V := W.V) (c := 2) (fun _ => 0) h hm hp hf) hk
    rw [show rb W.V 2 = 33 + 2 * W.V.na from rfl, show loI 2 0 = (-30000) from rfl, show loI 2 1 = 0 from rfl, show hiI W.V 2 0 = 20000 from rfl, show hiI W.V 2 1 = 5 from rfl] at hi
    exact t_fin_a hw hW hA z hi
  · have e6 : W.V.na = 16 := by omega
    rw [e6] at hk
    rw [if_neg (show ¬ cnt W.V 2 < mx 2 from z), m_two_f (by decide) hk]
    exact t_bad hW h hm
theorem m_markK {V : VW} (hn : V.n < 60) (M : MS) : (fun (S20 : MS) => chk (nI (rb V 3) + 9) 1177 (lt (sa S20 0 (upd (S20.2 0) (nI (rb V 3) + 9).toNatClampNeg (-1))) fun S21 => chk (nI (rb V 3) + 10) 1177 (lt (sa S21 0 (upd (S21.2 0) (nI (rb V 3) + 10).toNatClampNeg (-1))) fun S22 => chk 3 1177 (chk 3 1177 (lt (sa S22 0 (upd (S22.2 0) (3 : Int32).toNatClampNeg ((S22.2 0 (3 : Int32).toNatClampNeg) + 1))) fun S23 => bw (f_X12_takes S23 59) (fun x24 S25 => some (x24, S25))))))) M = bw (f_X12_takes (Fx3 (rb V 3) M) 59) (fun x S => some (x, S)) := by
  have hrb : rb V 3 = 65 + 11 * V.n := rfl
  have e9 : nI (rb V 3) + 9 = nI (rb V 3 + 9) := nI_add _ 9
  have e10 : nI (rb V 3) + 10 = nI (rb V 3 + 10) := nI_add _ 10
  dsimp only
  rw [e9, e10, chk_nI (by omega) (by decide), lt_eq, chk_nI (by omega) (by decide), lt_eq, chk_c3, chk_c3, lt_eq, nI_clamp (by omega), nI_clamp (by omega)]
  rfl
theorem t_one_m {bb : Nat → Nat} {n p : Nat} {W : WW} {S : CS} {M : MS} (ho : bbO bb n) (hw : WOK W) (h : rdS bb n p S) (hm : rdM bb n p M) (hp : p < n) (hW : tW W S) (hA : tA W (M.2 0)) (hf : S.1 5 = M.1 7) (hb : bb p = 109) : tQ bb n W S M p (f_X6_readItem S (nI W.V.td)) (f_X12_readItem M) := by
  have hs : sg bb n p = nI 109 := by unfold sg; rw [if_pos hp, hb]
  have hl : lx_0 bb n p = nI 3 := by
    unfold lx_0
    rw [if_pos hp, hb]
    exact plc_at (by decide) rfl (by decide)
  have hk : M.2 0 (3 : Int32).toNatClampNeg = nI W.V.n := hA.R.n
  have hk1 : (si M 6 (M.1 6 + 1)).2 0 (3 : Int32).toNatClampNeg = nI W.V.n := hA.R.n
  have hmx := hw.V.n
  have em : f_X12_readItem M = f_X12_readMark M := by
    unfold f_X12_readItem
    rw [m_here ho hm (by omega), bp_some, hs, if_neg (show ¬ nI 109 = 97 by decide), if_neg (show ¬ nI 109 = 101 by decide), if_pos (show nI 109 = 109 from rfl), bw_id]
  rw [em, c_openI ho h hp hw.V hW.V (by decide) hl]
  unfold f_X12_readMark f_X12_markAt f_X12_fails
  rw [chk_c3, hk, lt_eq, lt_eq, bw_some, chk_c3, hk1, bp_some]
  by_cases z : W.V.n < 60
  · rw [if_pos (show cnt W.V 3 < mx 3 from z), if_neg (show ¬ nI W.V.n = 60 from fun e => by have := (nI_eq (b := 60) (by omega) (by omega)).mp e; omega)]
    have eb : (65 : Int32) + 11 * nI W.V.n = nI (rb W.V 3) := by
      rw [show (11 : Int32) = nI 11 from rfl, pk_mul, show (65 : Int32) = nI 65 from rfl, nI_add]; rfl
    rw [eb, FU_10, show (0 : Int32) = nI 0 from rfl, m_m0 (by omega)]
    exact t_fin_m hw hW hA z (i_mark ho hw.V (fun S' hS' => (tW_keep hW hS').V) z ⟨hA.R.ne, hA.R.np, hA.R.na, hA.R.n, hA.R.td⟩ (m_markK z) 8 0 _ _ _ _ rfl (i_init (V := W.V) (c := 3) (fun _ => 0) h hm hp hf))
  · rw [if_neg (show ¬ cnt W.V 3 < mx 3 from z), if_pos (show nI W.V.n = 60 by rw [show W.V.n = 60 by omega]; rfl)]
    exact t_bad hW h hm
theorem t_item {bb : Nat → Nat} {n p : Nat} {W : WW} {S : CS} {M : MS} (ho : bbO bb n) (hw : WOK W) (h : rdS bb n p S) (hm : rdM bb n p M) (hp : p < n) (hW : tW W S) (hA : tA W (M.2 0)) (hf : S.1 5 = M.1 7) : tQ bb n W S M p (f_X6_readItem S (nI W.V.td)) (f_X12_readItem M) := by
  have hb256 := ho.b p hp
  by_cases c0 : bb p = 101
  · exact t_one_e ho hw h hm hp hW hA hf c0
  by_cases c1 : bb p = 112
  · exact t_one_p ho hw h hm hp hW hA hf c1
  by_cases c2 : bb p = 97
  · exact t_one_a ho hw h hm hp hW hA hf c2
  by_cases c3 : bb p = 109
  · exact t_one_m ho hw h hm hp hW hA hf c3
  have hs : sg bb n p = nI (bb p) := if_pos hp
  have hl : lx_0 bb n p = -1 := by
    unfold lx_0
    rw [if_pos hp]
    refine plc_no (fun q => ?_)
    unfold ltr_0 at q
    simp only [List.mem_cons, List.not_mem_nil, or_false] at q
    omega
  have ne : ∀ x, x < 256 → ¬ bb p = x → ¬ nI (bb p) = nI x := fun x hx q e => q ((nI_eq (by omega) (by omega)).mp e)
  unfold f_X6_readItem f_X12_readItem f_X12_fails f_X10_failHere
  rw [c_peek ho h (by omega), bp_some, ix_0_sg ho, bp_some, hl, m_here ho hm (by omega), bp_some, hs]
  simp only [jn0]
  rw [if_pos (show (-1 : Int32) < 0 by decide), if_neg (show ¬ nI (bb p) = 97 from ne 97 (by decide) c2), if_neg (show ¬ nI (bb p) = 101 from ne 101 (by decide) c0), if_neg (show ¬ nI (bb p) = 109 from ne 109 (by decide) c3), if_neg (show ¬ nI (bb p) = 112 from ne 112 (by decide) c1), lt_eq, bw_some, lt_eq, bw_some]
  exact t_bad hW h hm
