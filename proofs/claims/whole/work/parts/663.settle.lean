/-! a mark is settled -/
theorem tC_m {W : WW} {S : CS} (v : Nat → Int32) (hv : mO W.V v) (h : tW W S) (hs : ∀ i, i < 9 → S.2.1 (ar 3 i) W.V.n = v i) : tC (W.V.adm v) (ci (ca (ca S 22 (upd (S.2.1 22) W.V.n (-1))) 23 (upd (S.2.1 23) W.V.n (-1))) 6 (nI (W.V.n + 1))) :=
  ⟨h.V.td, h.V.ne, h.V.np, h.V.na, rfl, h.V.e0, h.V.e1, h.V.p0, h.V.p1, h.V.a0, h.V.a1, (fun i hi => by
    have hi : i < W.V.n + 1 := hi
    show _ = nI (upN W.V.ev W.V.n _ i)
    by_cases z : i = W.V.n
    · subst z; rw [upN_e, ← hv.ev.1]; exact hs 0 (by decide)
    · rw [upN_n z]; exact h.V.ev i (by omega)), (fun i hi => by
    have hi : i < W.V.n + 1 := hi
    show _ = nI (upN W.V.ath W.V.n _ i)
    by_cases z : i = W.V.n
    · subst z; rw [upN_e, ← hv.ath.1]; exact hs 1 (by decide)
    · rw [upN_n z]; exact h.V.ath i (by omega)), (fun i hi => by
    have hi : i < W.V.n + 1 := hi
    show _ = nI (upN W.V.pl W.V.n _ i)
    by_cases z : i = W.V.n
    · subst z; rw [upN_e, ← hv.pl.1]; exact hs 2 (by decide)
    · rw [upN_n z]; exact h.V.pl i (by omega)), (fun i hi => by
    have hi : i < W.V.n + 1 := hi
    show _ = nI (upN W.V.dy W.V.n _ i)
    by_cases z : i = W.V.n
    · subst z; rw [upN_e, ← hv.dy.1]; exact hs 3 (by decide)
    · rw [upN_n z]; exact h.V.dy i (by omega)), (fun i hi => by
    have hi : i < W.V.n + 1 := hi
    show _ = nI (upN W.V.mi W.V.n _ i)
    by_cases z : i = W.V.n
    · subst z; rw [upN_e, ← hv.mi.1]; exact hs 4 (by decide)
    · rw [upN_n z]; exact h.V.mi i (by omega)), (fun i hi => by
    have hi : i < W.V.n + 1 := hi
    show _ = nI (upN W.V.va W.V.n _ i)
    by_cases z : i = W.V.n
    · subst z; rw [upN_e, ← hv.va.1]; exact hs 5 (by decide)
    · rw [upN_n z]; exact h.V.va i (by omega)), (fun i hi => by
    have hi : i < W.V.n + 1 := hi
    show _ = upN W.V.wi W.V.n _ i
    by_cases z : i = W.V.n
    · subst z; rw [upN_e]; exact hs 6 (by decide)
    · rw [upN_n z]; exact h.V.wi i (by omega)), (fun i hi => by
    have hi : i < W.V.n + 1 := hi
    show _ = upN W.V.sh W.V.n _ i
    by_cases z : i = W.V.n
    · subst z; rw [upN_e]; exact hs 7 (by decide)
    · rw [upN_n z]; exact h.V.sh i (by omega)), (fun i hi => by
    have hi : i < W.V.n + 1 := hi
    show _ = nI (upN W.V.pa W.V.n _ i)
    by_cases z : i = W.V.n
    · subst z; rw [upN_e, ← hv.pa.1]; exact hs 8 (by decide)
    · rw [upN_n z]; exact h.V.pa i (by omega)), (fun i hi => by
    have hi : i < W.V.n + 1 := hi
    show _ = upN W.V.ra W.V.n _ i
    by_cases z : i = W.V.n
    · subst z; rw [upN_e]; exact pk_us
    · rw [upN_n z]; exact (pk_un z).trans (h.V.ra i (by omega))), (fun i hi => by
    have hi : i < W.V.n + 1 := hi
    show _ = upN W.V.sk W.V.n _ i
    by_cases z : i = W.V.n
    · subst z; rw [upN_e]; exact pk_us
    · rw [upN_n z]; exact (pk_un z).trans (h.V.sk i (by omega)))⟩
theorem se_m {W : WW} {S : CS} (hw : WOK W) (v : Nat → Int32) (hm : W.V.n < 60) (hv : mO W.V v) (h : tW W S) (hs : ∀ i, i < 9 → S.2.1 (ar 3 i) W.V.n = v i) : ∃ i S', i ≤ W.V.n ∧ f_X1_settle S (nI 3) = some S' ∧ gI [6] [22, 23, 24] S S' ∧ tW (W.adm v i) S' ∧ (∀ j, i ≤ j → j < W.V.n → vAhead (W.V.adm v) W.V.n (W.L.getD j 0) = true) ∧ (0 < i → vAhead (W.V.adm v) W.V.n (W.L.getD (i - 1) 0) = false) := by
  have hT := tC_m v hv h hs
  have hn := h.V.n
  obtain ⟨i, S1, hi, l1, l2, l3, l4, l5, l6⟩ := c_ins (S := (ca (ca S 22 (upd (S.2.1 22) W.V.n (-1))) 23 (upd (S.2.1 23) W.V.n (-1)))) (L := W.L) (n := W.V.n) (K := fun S15 x16 => chk x16 60 (lt (ca S15 24 (upd (S15.2.1 24) x16.toNatClampNeg (S15.1 6))) fun S17 => lt (ci S17 6 ((S17.1 6) + 1)) fun S18 => some S18)) (VOK_m hw v hm hv) rfl hT hw.le (fun y hy => (hw.me y).mp hy) h.o hn hm
  have e6 : S1.1 6 = nI W.V.n := by rw [l2.1 6 (by decide)]; exact hn
  have r1 : f_X1_settle S (nI 3) = some (ci (ca S1 24 (upd (S1.2.1 24) i (nI W.V.n))) 6 (nI (W.V.n + 1))) := by
    unfold f_X1_settle
    rw [if_neg (show ¬ nI 3 = 0 by decide), if_neg (show ¬ nI 3 = 1 by decide), if_neg (show ¬ nI 3 = 2 by decide), hn, if_neg (fun z => by rw [show (60 : Int32) = nI 60 from rfl, nI_leI (by omega) (by omega)] at z; omega)]
    unfold f_X1_settleMark
    have x1 : (ca S 22 (upd (S.2.1 22) W.V.n (-1))).1 6 = nI W.V.n := hn
    have x2 : (ca (ca S 22 (upd (S.2.1 22) W.V.n (-1))) 23 (upd (S.2.1 23) W.V.n (-1))).1 6 = nI W.V.n := hn
    have x3 : (ca S 22 (upd (S.2.1 22) W.V.n (-1))).2.1 23 = S.2.1 23 := rfl
    have x4 : (ca S1 24 (upd (S1.2.1 24) i (nI W.V.n))).1 6 = nI W.V.n := e6
    rw [hn, chk_nI hm (by decide), lt_eq, nI_clamp (by omega), x1, chk_nI hm (by decide), lt_eq, nI_clamp (by omega), x3, x2, lt_eq, l1, chk_nI (by omega) (by decide), lt_eq, nI_clamp (by omega), e6, x4, lt_eq, nI_1, bp_some]
  have g0 : gI [6] [22, 23, 24] S (ca (ca S 22 (upd (S.2.1 22) W.V.n (-1))) 23 (upd (S.2.1 23) W.V.n (-1))) := gI_ca (gI_ca gI_rf (by decide)) (by decide)
  have g1 : gI [6] [22, 23, 24] S (ci (ca S1 24 (upd (S1.2.1 24) i (nI W.V.n))) 6 (nI (W.V.n + 1))) := gI_ci (gI_ca (gI_tr g0 l2 (by decide) (by decide)) (by decide)) (by decide)
  have g6 : gI [] [24] (ci (ca (ca S 22 (upd (S.2.1 22) W.V.n (-1))) 23 (upd (S.2.1 23) W.V.n (-1))) 6 (nI (W.V.n + 1))) (ci (ca S1 24 (upd (S1.2.1 24) i (nI W.V.n))) 6 (nI (W.V.n + 1))) := ⟨fun k hk => by
    show up S1.1 6 _ k = up S.1 6 _ k
    by_cases z : k = 6
    · subst z; rw [up_eq, up_eq]
    · rw [up_ne z, up_ne z]; exact l2.1 k hk, fun k hk => by
    show up S1.2.1 24 _ k = _
    rw [up_ne (fun z => hk (by rw [z]; decide))]
    exact l2.2.1 k hk, l2.2.2⟩
  refine ⟨i, _, hi, r1, g1, ⟨tC_gI hT g6 (by decide) (by decide), hold_insN hw.le hi l3 l4, ?_, ?_, ?_, ?_, ?_, ?_, ?_, ?_⟩, l5, l6⟩
  · rw [g1.2.2]; exact h.nl
  · rw [g1.2.1 47 (by decide)]; exact h.ne
  · rw [g1.2.2]; exact h.ncl
  · rw [g1.2.1 46 (by decide)]; exact h.nc
  · rw [g1.2.2]; exact h.sl
  · rw [g1.2.1 51 (by decide)]; exact h.se
  · rw [g1.2.2]; exact h.scl
  · rw [g1.2.1 50 (by decide)]; exact h.sc
