/-! a mark is told: the order, the reference, what was before -/
theorem vA_m {W : WW} {v : Nat → Int32} {a b : Nat} (ha : a < W.V.n) (hb : b < W.V.n) : vAhead (W.V.adm v) a b = vAhead W.V a b := by
  have d1 : (W.V.adm v).dy a = W.V.dy a := upN_n (by omega)
  have d2 : (W.V.adm v).dy b = W.V.dy b := upN_n (by omega)
  have m1 : (W.V.adm v).mi a = W.V.mi a := upN_n (by omega)
  have m2 : (W.V.adm v).mi b = W.V.mi b := upN_n (by omega)
  unfold vAhead
  rw [d1, d2, m1, m2]
theorem WOK_m {W : WW} (hw : WOK W) (v : Nat → Int32) (hm : W.V.n < 60) (hv : mO W.V v) {i : Nat} (hi : i ≤ W.V.n) (h1 : ∀ j, i ≤ j → j < W.V.n → vAhead (W.V.adm v) W.V.n (W.L.getD j 0) = true) (h2 : 0 < i → vAhead (W.V.adm v) W.V.n (W.L.getD (i - 1) 0) = false) : WOK (W.adm v i) := by
  have hl := hw.le
  have hso : srt (W.V.adm v) W.L := List.Pairwise.imp_of_mem (fun {a b} ha hb h => by rw [vA_m ((hw.me a).mp ha) ((hw.me b).mp hb)]; exact h) hw.so
  refine ⟨VOK_m hw v hm hv, srt_ins hso (fun z => Nat.lt_irrefl _ ((hw.me _).mp z)) (by omega) (fun j ha hb => h1 j ha (by omega)) ((Nat.eq_zero_or_pos i).imp id h2), ?_, ?_, hw.n, hw.s, ?_⟩
  · intro y
    show y ∈ W.L.take i ++ W.V.n :: W.L.drop i ↔ y < W.V.n + 1
    have e := hw.me y
    rw [← List.take_append_drop i W.L, List.mem_append] at e
    rw [List.mem_append, List.mem_cons]
    constructor
    · rintro (z | z | z)
      · have := e.mp (Or.inl z); omega
      · omega
      · have := e.mp (Or.inr z); omega
    · intro z
      by_cases q : y = W.V.n
      · exact Or.inr (Or.inl q)
      · rcases e.mpr (by omega) with z | z
        · exact Or.inl z
        · exact Or.inr (Or.inr z)
  · show (W.L.take i ++ W.V.n :: W.L.drop i).length = W.V.n + 1
    rw [List.length_append, List.length_cons, List.length_take, List.length_drop]; omega
  · intro k hk hr
    have hk : k < W.V.n + 1 := hk
    by_cases z : k = W.V.n
    · subst z; exact absurd (show upN W.V.ra W.V.n (-1) W.V.n = -1 from upN_e) hr
    · have e1 : (W.adm v i).V.ra k = W.V.ra k := upN_n z
      have e2 : (W.adm v i).V.dy k = W.V.dy k := upN_n z
      rw [e1] at hr ⊢
      rw [e2]
      exact hw.dy k (by omega) hr
theorem pre_m {W : WW} (hw : WOK W) (v : Nat → Int32) (i : Nat) : pre W (W.adm v i) := by
  refine ⟨Nat.le_refl _, Nat.le_refl _, Nat.le_refl _, Nat.le_succ _, rfl, fun _ _ => rfl, fun _ _ => rfl, fun _ _ => rfl, fun _ _ => rfl, fun _ _ => rfl, fun _ _ => rfl, fun i hi => upN_n (by omega), fun i hi => upN_n (by omega), fun i hi => upN_n (by omega), fun i hi => upN_n (by omega), fun i hi => upN_n (by omega), fun i hi => upN_n (by omega), fun i hi => upN_n (by omega), fun i hi => upN_n (by omega), fun i hi => upN_n (by omega), fun i hi => upN_n (by omega), fun i hi => upN_n (by omega), ?_, rfl⟩
  show (W.L.take i ++ W.V.n :: W.L.drop i).filter (fun y => decide (y < W.V.n)) = W.L
  rw [List.filter_append, List.filter_cons, if_neg (by rw [decide_eq_false (Nat.lt_irrefl _)]; decide), ← List.filter_append, List.take_append_drop]
  exact filt_all hw.me
theorem tA_m {W : WW} {A A' : Nat → Int32} (hw : WOK W) (v : Nat → Int32) (j0 : Nat) (h : tA W A) (hm : W.V.n < 60) (hv : mO W.V v) (ag : ∀ i, ¬ (65 + 11 * W.V.n ≤ i ∧ i < 65 + 11 * W.V.n + 11) → i ≠ 3 → A' i = A i) (h0 : A' 3 = nI (W.V.n + 1)) (hA : ∀ i, i < 9 → A' (65 + 11 * W.V.n + i) = v i) (h9 : A' (65 + 11 * W.V.n + 9) = -1) (h10 : A' (65 + 11 * W.V.n + 10) = -1) : tA (W.adm v j0) A' := by
  have q1 := hw.V.ne
  have q2 := hw.V.np
  have q3 := hw.V.na
  have q5 := hw.n.c
  have q6 := hw.s.c
  have q7 := hw.n.n8
  refine ⟨⟨(by rw [ag _ (by omega) (by omega)]; exact h.R.ne), (by rw [ag _ (by omega) (by omega)]; exact h.R.np), (by rw [ag _ (by omega) (by omega)]; exact h.R.na), h0, (by rw [ag _ (by omega) (by omega)]; exact h.R.td), (fun i hi => by have hi : i < W.V.ne := hi; rw [ag _ (by omega) (by omega)]; exact h.R.e0 i hi), (fun i hi => by have hi : i < W.V.ne := hi; rw [ag _ (by omega) (by omega)]; exact h.R.e1 i hi), (fun i hi => by have hi : i < W.V.np := hi; rw [ag _ (by omega) (by omega)]; exact h.R.p0 i hi), (fun i hi => by have hi : i < W.V.np := hi; rw [ag _ (by omega) (by omega)]; exact h.R.p1 i hi), (fun i hi => by have hi : i < W.V.na := hi; rw [ag _ (by omega) (by omega)]; exact h.R.a0 i hi), (fun i hi => by have hi : i < W.V.na := hi; rw [ag _ (by omega) (by omega)]; exact h.R.a1 i hi), (fun i hi => by
    have hi : i < W.V.n + 1 := hi
    show _ = nI (upN W.V.ev W.V.n _ i)
    by_cases z : i = W.V.n
    · subst z; rw [upN_e, ← hv.ev.1]; exact hA 0 (by decide)
    · rw [upN_n z, ag _ (by omega) (by omega)]; exact h.R.ev i (by omega)), (fun i hi => by
    have hi : i < W.V.n + 1 := hi
    show _ = nI (upN W.V.ath W.V.n _ i)
    by_cases z : i = W.V.n
    · subst z; rw [upN_e, ← hv.ath.1]; exact hA 1 (by decide)
    · rw [upN_n z, ag _ (by omega) (by omega)]; exact h.R.ath i (by omega)), (fun i hi => by
    have hi : i < W.V.n + 1 := hi
    show _ = nI (upN W.V.pl W.V.n _ i)
    by_cases z : i = W.V.n
    · subst z; rw [upN_e, ← hv.pl.1]; exact hA 2 (by decide)
    · rw [upN_n z, ag _ (by omega) (by omega)]; exact h.R.pl i (by omega)), (fun i hi => by
    have hi : i < W.V.n + 1 := hi
    show _ = nI (upN W.V.dy W.V.n _ i)
    by_cases z : i = W.V.n
    · subst z; rw [upN_e, ← hv.dy.1]; exact hA 3 (by decide)
    · rw [upN_n z, ag _ (by omega) (by omega)]; exact h.R.dy i (by omega)), (fun i hi => by
    have hi : i < W.V.n + 1 := hi
    show _ = nI (upN W.V.mi W.V.n _ i)
    by_cases z : i = W.V.n
    · subst z; rw [upN_e, ← hv.mi.1]; exact hA 4 (by decide)
    · rw [upN_n z, ag _ (by omega) (by omega)]; exact h.R.mi i (by omega)), (fun i hi => by
    have hi : i < W.V.n + 1 := hi
    show _ = nI (upN W.V.va W.V.n _ i)
    by_cases z : i = W.V.n
    · subst z; rw [upN_e, ← hv.va.1]; exact hA 5 (by decide)
    · rw [upN_n z, ag _ (by omega) (by omega)]; exact h.R.va i (by omega)), (fun i hi => by
    have hi : i < W.V.n + 1 := hi
    show _ = upN W.V.wi W.V.n _ i
    by_cases z : i = W.V.n
    · subst z; rw [upN_e]; exact hA 6 (by decide)
    · rw [upN_n z, ag _ (by omega) (by omega)]; exact h.R.wi i (by omega)), (fun i hi => by
    have hi : i < W.V.n + 1 := hi
    show _ = upN W.V.sh W.V.n _ i
    by_cases z : i = W.V.n
    · subst z; rw [upN_e]; exact hA 7 (by decide)
    · rw [upN_n z, ag _ (by omega) (by omega)]; exact h.R.sh i (by omega)), (fun i hi => by
    have hi : i < W.V.n + 1 := hi
    show _ = nI (upN W.V.pa W.V.n _ i)
    by_cases z : i = W.V.n
    · subst z; rw [upN_e, ← hv.pa.1]; exact hA 8 (by decide)
    · rw [upN_n z, ag _ (by omega) (by omega)]; exact h.R.pa i (by omega)), (fun i hi => by
    have hi : i < W.V.n + 1 := hi
    show _ = upN W.V.ra W.V.n _ i
    by_cases z : i = W.V.n
    · subst z; rw [upN_e]; exact h9
    · rw [upN_n z, ag _ (by omega) (by omega)]; exact h.R.ra i (by omega)), (fun i hi => by
    have hi : i < W.V.n + 1 := hi
    show _ = upN W.V.sk W.V.n _ i
    by_cases z : i = W.V.n
    · subst z; rw [upN_e]; exact h10
    · rw [upN_n z, ag _ (by omega) (by omega)]; exact h.R.sk i (by omega))⟩, ?_, ?_, ?_, ?_, ?_, ?_, ?_⟩
  · rw [ag _ (by omega) (by omega)]; exact h.nm
  · rw [ag _ (by omega) (by omega)]; exact h.n0
  · exact fun i hi => by have hi : i < W.ne.length := hi; rw [ag _ (by omega) (by omega)]; exact h.nb i hi
  · exact fun i hi => by have hi : i < W.nc.length := hi; rw [ag _ (by omega) (by omega)]; exact h.nc i hi
  · rw [ag _ (by omega) (by omega)]; exact h.st
  · rw [ag _ (by omega) (by omega)]; exact h.sd
  · exact fun i hi => by have hi : i < W.sc.length := hi; rw [ag _ (by omega) (by omega)]; exact h.sc i hi
