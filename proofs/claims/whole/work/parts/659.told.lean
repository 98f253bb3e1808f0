/-! an event, a place, an athlete is told -/
def VW.ade (V : VW) (x y : Int32) : VW := (V.ne + 1, V.np, V.na, V.n, V.td, upN V.e0 V.ne x, upN V.e1 V.ne y, V.p0, V.p1, V.a0, V.a1, V.ev, V.ath, V.pl, V.dy, V.mi, V.va, V.wi, V.sh, V.pa, V.ra, V.sk)
def VW.adp (V : VW) (x y : Int32) : VW := (V.ne, V.np + 1, V.na, V.n, V.td, V.e0, V.e1, upN V.p0 V.np x, upN V.p1 V.np y, V.a0, V.a1, V.ev, V.ath, V.pl, V.dy, V.mi, V.va, V.wi, V.sh, V.pa, V.ra, V.sk)
def VW.ada (V : VW) (x y : Int32) : VW := (V.ne, V.np, V.na + 1, V.n, V.td, V.e0, V.e1, V.p0, V.p1, upN V.a0 V.na x, upN V.a1 V.na y, V.ev, V.ath, V.pl, V.dy, V.mi, V.va, V.wi, V.sh, V.pa, V.ra, V.sk)
theorem upN_e {α : Type} {f : Nat → α} {k : Nat} {v : α} : upN f k v k = v := if_pos rfl
theorem bnd_b {x lo hi : Int32} (h : bnd x lo hi = true) : lo.toInt ≤ x.toInt ∧ x.toInt ≤ hi.toInt := by
  unfold bnd at h
  by_cases c : x < lo
  · rw [if_pos c] at h; cases h
  · rw [if_neg c] at h
    have h := of_decide_eq_true h
    rw [Int32.lt_iff_toInt_lt] at c
    rw [Int32.le_iff_toInt_le] at h
    omega
theorem filt_all {L : List Nat} {n : Nat} (h : ∀ y, y ∈ L ↔ y < n) : L.filter (fun y => decide (y < n)) = L := List.filter_eq_self.mpr (fun y hy => decide_eq_true ((h y).mp hy))
theorem pre_e {W : WW} (hw : WOK W) (v : Nat → Int32) : pre W (W.wV (W.V.ade (v 0) (v 1))) := by
  refine ⟨Nat.le_succ _, Nat.le_refl _, Nat.le_refl _, Nat.le_refl _, rfl, fun i hi => upN_n (by omega), fun i hi => upN_n (by omega), fun _ _ => rfl, fun _ _ => rfl, fun _ _ => rfl, fun _ _ => rfl, fun _ _ => rfl, fun _ _ => rfl, fun _ _ => rfl, fun _ _ => rfl, fun _ _ => rfl, fun _ _ => rfl, fun _ _ => rfl, fun _ _ => rfl, fun _ _ => rfl, fun _ _ => rfl, fun _ _ => rfl, filt_all hw.me, rfl⟩
theorem WOK_e {W : WW} (hw : WOK W) (v : Nat → Int32) (hm : W.V.ne < 6) (hv : ∀ i, i < 2 → bnd (v i) (loI 0 i) (hiI W.V 0 i) = true) : WOK (W.wV (W.V.ade (v 0) (v 1))) := by
  have hV := hw.V
  refine ⟨⟨hm, hV.np, hV.na, hV.n, hV.td, ?_, hV.a0, fun k hk => Nat.lt_succ_of_lt (hV.ev k hk), hV.ath, hV.pl, hV.dy, hV.mi, hV.va, hV.pa, hV.ra, hV.sk⟩, hw.so, hw.me, hw.le, hw.n, hw.s, hw.dy⟩
  intro i hi
  show upN W.V.e0 W.V.ne (v 0) i = 0 ∨ upN W.V.e0 W.V.ne (v 0) i = 1
  by_cases z : i = W.V.ne
  · subst z
    rw [upN_e]
    have := bnd_b (hv 0 (by decide))
    rw [show (loI 0 0).toInt = 0 from rfl, show (hiI W.V 0 0).toInt = 1 from rfl] at this
    by_cases q : (v 0).toInt = 0
    · exact Or.inl (Int32.toInt_inj.mp q)
    · exact Or.inr (Int32.toInt_inj.mp (show (v 0).toInt = 1 by omega))
  · rw [upN_n z]; exact hV.e0 i (by have : i < W.V.ne + 1 := hi; omega)
theorem tW_e {W : WW} {S : CS} (v : Nat → Int32) (h : tW W S) (hv : ∀ i, i < 2 → S.2.1 (ar 0 i) W.V.ne = v i) : tW (W.wV (W.V.ade (v 0) (v 1))) (ci S 7 (S.1 7 + 1)) :=
  ⟨⟨h.V.td, (by show S.1 7 + 1 = _; rw [h.V.ne, nI_1]; rfl), h.V.np, h.V.na, h.V.n, (fun i hi => by
    show _ = upN W.V.e0 W.V.ne (v 0) i
    by_cases z : i = W.V.ne
    · subst z; rw [upN_e]; exact hv 0 (by decide)
    · rw [upN_n z]; exact h.V.e0 i (by have : i < W.V.ne + 1 := hi; omega)), (fun i hi => by
    show _ = upN W.V.e1 W.V.ne (v 1) i
    by_cases z : i = W.V.ne
    · subst z; rw [upN_e]; exact hv 1 (by decide)
    · rw [upN_n z]; exact h.V.e1 i (by have : i < W.V.ne + 1 := hi; omega)), h.V.p0, h.V.p1, h.V.a0, h.V.a1, h.V.ev, h.V.ath, h.V.pl, h.V.dy, h.V.mi, h.V.va, h.V.wi, h.V.sh, h.V.pa, h.V.ra, h.V.sk⟩, h.o, h.nl, h.ne, h.ncl, h.nc, h.sl, h.se, h.scl, h.sc⟩
theorem se_e {V : VW} {S : CS} (h : tC V S) (hm : V.ne < 6) : f_X1_settle S (nI 0) = some (ci S 7 (S.1 7 + 1)) := by
  unfold f_X1_settle
  rw [if_pos (show nI 0 = 0 from rfl)]
  unfold f_X8_settle_pe f_X8_isFull_pe
  rw [h.ne, if_pos ((show (6 : Int32) = nI 6 from rfl) ▸ (nI_ltI (by omega) (by omega)).mpr hm), bp_some, if_neg (show ¬ false = true by decide), lt_eq, bp_some]
theorem tA_e {W : WW} {A A' : Nat → Int32} (hw : WOK W) (v : Nat → Int32) (h : tA W A) (hm : W.V.ne < 6) (ag : ∀ i, ¬ (5 + 2 * W.V.ne ≤ i ∧ i < 5 + 2 * W.V.ne + 2) → i ≠ 0 → A' i = A i) (h0 : A' 0 = nI (W.V.ne + 1)) (hv : ∀ i, i < 2 → A' (5 + 2 * W.V.ne + i) = v i) : tA (W.wV (W.V.ade (v 0) (v 1))) A' := by
  have q1 := hw.V.ne
  have q2 := hw.V.np
  have q3 := hw.V.na
  have q4 := hw.V.n
  have q5 := hw.n.c
  have q6 := hw.s.c
  have q7 := hw.n.n8
  refine ⟨⟨h0, (by rw [ag _ (by omega) (by omega)]; exact h.R.np), (by rw [ag _ (by omega) (by omega)]; exact h.R.na), (by rw [ag _ (by omega) (by omega)]; exact h.R.n), (by rw [ag _ (by omega) (by omega)]; exact h.R.td), (fun i hi => by
    show _ = upN W.V.e0 W.V.ne (v 0) i
    have hi : i < W.V.ne + 1 := hi
    by_cases z : i = W.V.ne
    · subst z; rw [upN_e]; exact hv 0 (by decide)
    · rw [upN_n z, ag _ (by omega) (by omega)]; exact h.R.e0 i (by omega)), (fun i hi => by
    show _ = upN W.V.e1 W.V.ne (v 1) i
    have hi : i < W.V.ne + 1 := hi
    by_cases z : i = W.V.ne
    · subst z; rw [upN_e]; exact hv 1 (by decide)
    · rw [upN_n z, ag _ (by omega) (by omega)]; exact h.R.e1 i (by omega)), (fun i hi => by have hi : i < W.V.np := hi; rw [ag _ (by omega) (by omega)]; exact h.R.p0 i hi), (fun i hi => by have hi : i < W.V.np := hi; rw [ag _ (by omega) (by omega)]; exact h.R.p1 i hi), (fun i hi => by have hi : i < W.V.na := hi; rw [ag _ (by omega) (by omega)]; exact h.R.a0 i hi), (fun i hi => by have hi : i < W.V.na := hi; rw [ag _ (by omega) (by omega)]; exact h.R.a1 i hi), (fun i hi => by have hi : i < W.V.n := hi; rw [ag _ (by omega) (by omega)]; exact h.R.ev i hi), (fun i hi => by have hi : i < W.V.n := hi; rw [ag _ (by omega) (by omega)]; exact h.R.ath i hi), (fun i hi => by have hi : i < W.V.n := hi; rw [ag _ (by omega) (by omega)]; exact h.R.pl i hi), (fun i hi => by have hi : i < W.V.n := hi; rw [ag _ (by omega) (by omega)]; exact h.R.dy i hi), (fun i hi => by have hi : i < W.V.n := hi; rw [ag _ (by omega) (by omega)]; exact h.R.mi i hi), (fun i hi => by have hi : i < W.V.n := hi; rw [ag _ (by omega) (by omega)]; exact h.R.va i hi), (fun i hi => by have hi : i < W.V.n := hi; rw [ag _ (by omega) (by omega)]; exact h.R.wi i hi), (fun i hi => by have hi : i < W.V.n := hi; rw [ag _ (by omega) (by omega)]; exact h.R.sh i hi), (fun i hi => by have hi : i < W.V.n := hi; rw [ag _ (by omega) (by omega)]; exact h.R.pa i hi), (fun i hi => by have hi : i < W.V.n := hi; rw [ag _ (by omega) (by omega)]; exact h.R.ra i hi), (fun i hi => by have hi : i < W.V.n := hi; rw [ag _ (by omega) (by omega)]; exact h.R.sk i hi)⟩, ?_, ?_, ?_, ?_, ?_, ?_, ?_⟩
  · rw [ag _ (by omega) (by omega)]; exact h.nm
  · rw [ag _ (by omega) (by omega)]; exact h.n0
  · exact fun i hi => by have hi : i < W.ne.length := hi; rw [ag _ (by omega) (by omega)]; exact h.nb i hi
  · exact fun i hi => by have hi : i < W.nc.length := hi; rw [ag _ (by omega) (by omega)]; exact h.nc i hi
  · rw [ag _ (by omega) (by omega)]; exact h.st
  · rw [ag _ (by omega) (by omega)]; exact h.sd
  · exact fun i hi => by have hi : i < W.sc.length := hi; rw [ag _ (by omega) (by omega)]; exact h.sc i hi
theorem pre_p {W : WW} (hw : WOK W) (v : Nat → Int32) : pre W (W.wV (W.V.adp (v 0) (v 1))) := by
  refine ⟨Nat.le_refl _, Nat.le_succ _, Nat.le_refl _, Nat.le_refl _, rfl, fun _ _ => rfl, fun _ _ => rfl, fun i hi => upN_n (by omega), fun i hi => upN_n (by omega), fun _ _ => rfl, fun _ _ => rfl, fun _ _ => rfl, fun _ _ => rfl, fun _ _ => rfl, fun _ _ => rfl, fun _ _ => rfl, fun _ _ => rfl, fun _ _ => rfl, fun _ _ => rfl, fun _ _ => rfl, fun _ _ => rfl, fun _ _ => rfl, filt_all hw.me, rfl⟩
theorem WOK_p {W : WW} (hw : WOK W) (v : Nat → Int32) (hm : W.V.np < 8) (hv : ∀ i, i < 2 → bnd (v i) (loI 1 i) (hiI W.V 1 i) = true) : WOK (W.wV (W.V.adp (v 0) (v 1))) := by
  have hV := hw.V
  refine ⟨⟨hV.ne, hm, hV.na, hV.n, hV.td, hV.e0, hV.a0, hV.ev, hV.ath, fun k hk => Nat.lt_succ_of_lt (hV.pl k hk), hV.dy, hV.mi, hV.va, hV.pa, hV.ra, hV.sk⟩, hw.so, hw.me, hw.le, hw.n, hw.s, hw.dy⟩
theorem tW_p {W : WW} {S : CS} (v : Nat → Int32) (h : tW W S) (hv : ∀ i, i < 2 → S.2.1 (ar 1 i) W.V.np = v i) : tW (W.wV (W.V.adp (v 0) (v 1))) (ci S 8 (S.1 8 + 1)) :=
  ⟨⟨h.V.td, h.V.ne, (by show S.1 8 + 1 = _; rw [h.V.np, nI_1]; rfl), h.V.na, h.V.n, h.V.e0, h.V.e1, (fun i hi => by
    show _ = upN W.V.p0 W.V.np (v 0) i
    by_cases z : i = W.V.np
    · subst z; rw [upN_e]; exact hv 0 (by decide)
    · rw [upN_n z]; exact h.V.p0 i (by have : i < W.V.np + 1 := hi; omega)), (fun i hi => by
    show _ = upN W.V.p1 W.V.np (v 1) i
    by_cases z : i = W.V.np
    · subst z; rw [upN_e]; exact hv 1 (by decide)
    · rw [upN_n z]; exact h.V.p1 i (by have : i < W.V.np + 1 := hi; omega)), h.V.a0, h.V.a1, h.V.ev, h.V.ath, h.V.pl, h.V.dy, h.V.mi, h.V.va, h.V.wi, h.V.sh, h.V.pa, h.V.ra, h.V.sk⟩, h.o, h.nl, h.ne, h.ncl, h.nc, h.sl, h.se, h.scl, h.sc⟩
theorem se_p {V : VW} {S : CS} (h : tC V S) (hm : V.np < 8) : f_X1_settle S (nI 1) = some (ci S 8 (S.1 8 + 1)) := by
  unfold f_X1_settle
  rw [if_neg (show ¬ nI 1 = 0 by decide), if_pos (show nI 1 = 1 from rfl)]
  unfold f_X8_settle_pp f_X8_isFull_pp
  rw [h.np, if_pos ((show (8 : Int32) = nI 8 from rfl) ▸ (nI_ltI (by omega) (by omega)).mpr hm), bp_some, if_neg (show ¬ false = true by decide), lt_eq, bp_some]
theorem tA_p {W : WW} {A A' : Nat → Int32} (hw : WOK W) (v : Nat → Int32) (h : tA W A) (hm : W.V.np < 8) (ag : ∀ i, ¬ (17 + 2 * W.V.np ≤ i ∧ i < 17 + 2 * W.V.np + 2) → i ≠ 1 → A' i = A i) (h0 : A' 1 = nI (W.V.np + 1)) (hv : ∀ i, i < 2 → A' (17 + 2 * W.V.np + i) = v i) : tA (W.wV (W.V.adp (v 0) (v 1))) A' := by
  have q1 := hw.V.ne
  have q2 := hw.V.np
  have q3 := hw.V.na
  have q4 := hw.V.n
  have q5 := hw.n.c
  have q6 := hw.s.c
  have q7 := hw.n.n8
  refine ⟨⟨(by rw [ag _ (by omega) (by omega)]; exact h.R.ne), h0, (by rw [ag _ (by omega) (by omega)]; exact h.R.na), (by rw [ag _ (by omega) (by omega)]; exact h.R.n), (by rw [ag _ (by omega) (by omega)]; exact h.R.td), (fun i hi => by have hi : i < W.V.ne := hi; rw [ag _ (by omega) (by omega)]; exact h.R.e0 i hi), (fun i hi => by have hi : i < W.V.ne := hi; rw [ag _ (by omega) (by omega)]; exact h.R.e1 i hi), (fun i hi => by
    show _ = upN W.V.p0 W.V.np (v 0) i
    have hi : i < W.V.np + 1 := hi
    by_cases z : i = W.V.np
    · subst z; rw [upN_e]; exact hv 0 (by decide)
    · rw [upN_n z, ag _ (by omega) (by omega)]; exact h.R.p0 i (by omega)), (fun i hi => by
    show _ = upN W.V.p1 W.V.np (v 1) i
    have hi : i < W.V.np + 1 := hi
    by_cases z : i = W.V.np
    · subst z; rw [upN_e]; exact hv 1 (by decide)
    · rw [upN_n z, ag _ (by omega) (by omega)]; exact h.R.p1 i (by omega)), (fun i hi => by have hi : i < W.V.na := hi; rw [ag _ (by omega) (by omega)]; exact h.R.a0 i hi), (fun i hi => by have hi : i < W.V.na := hi; rw [ag _ (by omega) (by omega)]; exact h.R.a1 i hi), (fun i hi => by have hi : i < W.V.n := hi; rw [ag _ (by omega) (by omega)]; exact h.R.ev i hi), (fun i hi => by have hi : i < W.V.n := hi; rw [ag _ (by omega) (by omega)]; exact h.R.ath i hi), (fun i hi => by have hi : i < W.V.n := hi; rw [ag _ (by omega) (by omega)]; exact h.R.pl i hi), (fun i hi => by have hi : i < W.V.n := hi; rw [ag _ (by omega) (by omega)]; exact h.R.dy i hi), (fun i hi => by have hi : i < W.V.n := hi; rw [ag _ (by omega) (by omega)]; exact h.R.mi i hi), (fun i hi => by have hi : i < W.V.n := hi; rw [ag _ (by omega) (by omega)]; exact h.R.va i hi), (fun i hi => by have hi : i < W.V.n := hi; rw [ag _ (by omega) (by omega)]; exact h.R.wi i hi), (fun i hi => by have hi : i < W.V.n := hi; rw [ag _ (by omega) (by omega)]; exact h.R.sh i hi), (fun i hi => by have hi : i < W.V.n := hi; rw [ag _ (by omega) (by omega)]; exact h.R.pa i hi), (fun i hi => by have hi : i < W.V.n := hi; rw [ag _ (by omega) (by omega)]; exact h.R.ra i hi), (fun i hi => by have hi : i < W.V.n := hi; rw [ag _ (by omega) (by omega)]; exact h.R.sk i hi)⟩, ?_, ?_, ?_, ?_, ?_, ?_, ?_⟩
  · rw [ag _ (by omega) (by omega)]; exact h.nm
  · rw [ag _ (by omega) (by omega)]; exact h.n0
  · exact fun i hi => by have hi : i < W.ne.length := hi; rw [ag _ (by omega) (by omega)]; exact h.nb i hi
  · exact fun i hi => by have hi : i < W.nc.length := hi; rw [ag _ (by omega) (by omega)]; exact h.nc i hi
  · rw [ag _ (by omega) (by omega)]; exact h.st
  · rw [ag _ (by omega) (by omega)]; exact h.sd
  · exact fun i hi => by have hi : i < W.sc.length := hi; rw [ag _ (by omega) (by omega)]; exact h.sc i hi
theorem pre_a {W : WW} (hw : WOK W) (v : Nat → Int32) : pre W (W.wV (W.V.ada (v 0) (v 1))) := by
  refine ⟨Nat.le_refl _, Nat.le_refl _, Nat.le_succ _, Nat.le_refl _, rfl, fun _ _ => rfl, fun _ _ => rfl, fun _ _ => rfl, fun _ _ => rfl, fun i hi => upN_n (by omega), fun i hi => upN_n (by omega), fun _ _ => rfl, fun _ _ => rfl, fun _ _ => rfl, fun _ _ => rfl, fun _ _ => rfl, fun _ _ => rfl, fun _ _ => rfl, fun _ _ => rfl, fun _ _ => rfl, fun _ _ => rfl, fun _ _ => rfl, filt_all hw.me, rfl⟩
theorem WOK_a {W : WW} (hw : WOK W) (v : Nat → Int32) (hm : W.V.na < 16) (hv : ∀ i, i < 2 → bnd (v i) (loI 2 i) (hiI W.V 2 i) = true) : WOK (W.wV (W.V.ada (v 0) (v 1))) := by
  have hV := hw.V
  refine ⟨⟨hV.ne, hV.np, hm, hV.n, hV.td, hV.e0, ?_, hV.ev, fun k hk => Nat.lt_succ_of_lt (hV.ath k hk), hV.pl, hV.dy, hV.mi, hV.va, hV.pa, hV.ra, hV.sk⟩, hw.so, hw.me, hw.le, hw.n, hw.s, hw.dy⟩
  intro i hi
  show -30000 ≤ (upN W.V.a0 W.V.na (v 0) i).toInt ∧ (upN W.V.a0 W.V.na (v 0) i).toInt ≤ 20000
  by_cases z : i = W.V.na
  · subst z
    rw [upN_e]
    exact bnd_b (hv 0 (by decide))
  · rw [upN_n z]; exact hV.a0 i (by have : i < W.V.na + 1 := hi; omega)
theorem tW_a {W : WW} {S : CS} (v : Nat → Int32) (h : tW W S) (hv : ∀ i, i < 2 → S.2.1 (ar 2 i) W.V.na = v i) : tW (W.wV (W.V.ada (v 0) (v 1))) (ci S 9 (S.1 9 + 1)) :=
  ⟨⟨h.V.td, h.V.ne, h.V.np, (by show S.1 9 + 1 = _; rw [h.V.na, nI_1]; rfl), h.V.n, h.V.e0, h.V.e1, h.V.p0, h.V.p1, (fun i hi => by
    show _ = upN W.V.a0 W.V.na (v 0) i
    by_cases z : i = W.V.na
    · subst z; rw [upN_e]; exact hv 0 (by decide)
    · rw [upN_n z]; exact h.V.a0 i (by have : i < W.V.na + 1 := hi; omega)), (fun i hi => by
    show _ = upN W.V.a1 W.V.na (v 1) i
    by_cases z : i = W.V.na
    · subst z; rw [upN_e]; exact hv 1 (by decide)
    · rw [upN_n z]; exact h.V.a1 i (by have : i < W.V.na + 1 := hi; omega)), h.V.ev, h.V.ath, h.V.pl, h.V.dy, h.V.mi, h.V.va, h.V.wi, h.V.sh, h.V.pa, h.V.ra, h.V.sk⟩, h.o, h.nl, h.ne, h.ncl, h.nc, h.sl, h.se, h.scl, h.sc⟩
theorem se_a {V : VW} {S : CS} (h : tC V S) (hm : V.na < 16) : f_X1_settle S (nI 2) = some (ci S 9 (S.1 9 + 1)) := by
  unfold f_X1_settle
  rw [if_neg (show ¬ nI 2 = 0 by decide), if_neg (show ¬ nI 2 = 1 by decide), if_pos (show nI 2 = 2 from rfl)]
  unfold f_X8_settle_pa f_X8_isFull_pa
  rw [h.na, if_pos ((show (16 : Int32) = nI 16 from rfl) ▸ (nI_ltI (by omega) (by omega)).mpr hm), bp_some, if_neg (show ¬ false = true by decide), lt_eq, bp_some]
theorem tA_a {W : WW} {A A' : Nat → Int32} (hw : WOK W) (v : Nat → Int32) (h : tA W A) (hm : W.V.na < 16) (ag : ∀ i, ¬ (33 + 2 * W.V.na ≤ i ∧ i < 33 + 2 * W.V.na + 2) → i ≠ 2 → A' i = A i) (h0 : A' 2 = nI (W.V.na + 1)) (hv : ∀ i, i < 2 → A' (33 + 2 * W.V.na + i) = v i) : tA (W.wV (W.V.ada (v 0) (v 1))) A' := by
  have q1 := hw.V.ne
  have q2 := hw.V.np
  have q3 := hw.V.na
  have q4 := hw.V.n
  have q5 := hw.n.c
  have q6 := hw.s.c
  have q7 := hw.n.n8
  refine ⟨⟨(by rw [ag _ (by omega) (by omega)]; exact h.R.ne), (by rw [ag _ (by omega) (by omega)]; exact h.R.np), h0, (by rw [ag _ (by omega) (by omega)]; exact h.R.n), (by rw [ag _ (by omega) (by omega)]; exact h.R.td), (fun i hi => by have hi : i < W.V.ne := hi; rw [ag _ (by omega) (by omega)]; exact h.R.e0 i hi), (fun i hi => by have hi : i < W.V.ne := hi; rw [ag _ (by omega) (by omega)]; exact h.R.e1 i hi), (fun i hi => by have hi : i < W.V.np := hi; rw [ag _ (by omega) (by omega)]; exact h.R.p0 i hi), (fun i hi => by have hi : i < W.V.np := hi; rw [ag _ (by omega) (by omega)]; exact h.R.p1 i hi), (fun i hi => by
    show _ = upN W.V.a0 W.V.na (v 0) i
    have hi : i < W.V.na + 1 := hi
    by_cases z : i = W.V.na
    · subst z; rw [upN_e]; exact hv 0 (by decide)
    · rw [upN_n z, ag _ (by omega) (by omega)]; exact h.R.a0 i (by omega)), (fun i hi => by
    show _ = upN W.V.a1 W.V.na (v 1) i
    have hi : i < W.V.na + 1 := hi
    by_cases z : i = W.V.na
    · subst z; rw [upN_e]; exact hv 1 (by decide)
    · rw [upN_n z, ag _ (by omega) (by omega)]; exact h.R.a1 i (by omega)), (fun i hi => by have hi : i < W.V.n := hi; rw [ag _ (by omega) (by omega)]; exact h.R.ev i hi), (fun i hi => by have hi : i < W.V.n := hi; rw [ag _ (by omega) (by omega)]; exact h.R.ath i hi), (fun i hi => by have hi : i < W.V.n := hi; rw [ag _ (by omega) (by omega)]; exact h.R.pl i hi), (fun i hi => by have hi : i < W.V.n := hi; rw [ag _ (by omega) (by omega)]; exact h.R.dy i hi), (fun i hi => by have hi : i < W.V.n := hi; rw [ag _ (by omega) (by omega)]; exact h.R.mi i hi), (fun i hi => by have hi : i < W.V.n := hi; rw [ag _ (by omega) (by omega)]; exact h.R.va i hi), (fun i hi => by have hi : i < W.V.n := hi; rw [ag _ (by omega) (by omega)]; exact h.R.wi i hi), (fun i hi => by have hi : i < W.V.n := hi; rw [ag _ (by omega) (by omega)]; exact h.R.sh i hi), (fun i hi => by have hi : i < W.V.n := hi; rw [ag _ (by omega) (by omega)]; exact h.R.pa i hi), (fun i hi => by have hi : i < W.V.n := hi; rw [ag _ (by omega) (by omega)]; exact h.R.ra i hi), (fun i hi => by have hi : i < W.V.n := hi; rw [ag _ (by omega) (by omega)]; exact h.R.sk i hi)⟩, ?_, ?_, ?_, ?_, ?_, ?_, ?_⟩
  · rw [ag _ (by omega) (by omega)]; exact h.nm
  · rw [ag _ (by omega) (by omega)]; exact h.n0
  · exact fun i hi => by have hi : i < W.ne.length := hi; rw [ag _ (by omega) (by omega)]; exact h.nb i hi
  · exact fun i hi => by have hi : i < W.nc.length := hi; rw [ag _ (by omega) (by omega)]; exact h.nc i hi
  · rw [ag _ (by omega) (by omega)]; exact h.st
  · rw [ag _ (by omega) (by omega)]; exact h.sd
  · exact fun i hi => by have hi : i < W.sc.length := hi; rw [ag _ (by omega) (by omega)]; exact h.sc i hi
