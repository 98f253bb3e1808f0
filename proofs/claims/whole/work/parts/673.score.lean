/-! score: the machine -/
theorem c_relx : ∀ (ws : List Nat) (g : Nat) (S : CS) (k : Nat), ws.length < g → S.1 10 = nI k → k + ws.length ≤ 599 → S.1 11 = nI ws.length → stkW (S.2.1 28) ws → (∀ o, o ∈ ws → o < 256) → ∃ S', L_X5_release_0 (nI 1) (fun S11 => some S11) g S = some S' ∧ gI [10, 11, 14] [27] S S' := by
  intro ws
  induction ws with
  | nil =>
    intro g S k hg e10 hk e11 hst hb
    obtain ⟨g, rfl⟩ : ∃ j, g = j + 1 := ⟨g - 1, by omega⟩
    refine ⟨S, ?_, gI_rf⟩
    unfold L_X5_release_0
    rw [lo1_succ]
    rw [e11, if_pos (show nI ([] : List Nat).length ≤ 0 by decide)]
  | cons o r ih =>
    intro g S k hg e10 hk e11 hst hb
    obtain ⟨g, rfl⟩ : ∃ j, g = j + 1 := ⟨g - 1, by omega⟩
    have hst : S.2.1 28 r.length = nI o ∧ stkW (S.2.1 28) r := hst
    have ho := hb o (List.mem_cons_self ..)
    have e11 : S.1 11 = nI (r.length + 1) := e11
    rw [List.length_cons] at hg hk
    have s6 := strn_6 (o := o)
    have hb' : ∀ x, x ∈ r → x < 256 := fun x hx => hb x (List.mem_cons_of_mem _ hx)
    by_cases z : strn o < 1
    · refine ⟨S, ?_, gI_rf⟩
      unfold L_X5_release_0
      rw [lo1_succ]
      rw [e11, if_neg (nI_nle (by omega) (by omega)), nI_pred, chk_nI (by omega) (by decide), nI_clamp (by omega), hst.1, c_strn ho, bp_some, if_pos ((nI_ltI (by omega) (by omega)).mpr z)]
    · have k1 : (ci S 11 (nI r.length)).1 10 = nI k := e10
      have kst : (ci S 11 (nI r.length)).2.1 28 r.length = nI o := hst.1
      have e1 : L_X5_release_0 (nI 1) (fun S11 => some S11) (g + 1) S = (if nI o = 33 then L_X5_release_0 (nI 1) (fun S11 => some S11) g (ci (ci (ca (ci S 11 (nI r.length)) 27 (upd (S.2.1 27) k (-(nI o)))) 10 (nI (k + 1))) 14 (S.1 14 - 1)) else L_X5_release_0 (nI 1) (fun S11 => some S11) g (ci (ca (ci S 11 (nI r.length)) 27 (upd (S.2.1 27) k (-(nI o)))) 10 (nI (k + 1)))) := by
        unfold L_X5_release_0
        rw [lo1_succ]
        rw [e11, if_neg (nI_nle (by omega) (by omega)), nI_pred, chk_nI (by omega) (by decide), nI_clamp (by omega), hst.1, c_strn ho, bp_some, if_neg (fun z => by rw [nI_ltI (by omega) (by omega)] at z; omega), lt_eq]
        rw [show (ci S 11 (nI r.length)).1 11 = nI r.length from rfl, chk_nI (by omega) (by decide), nI_clamp (by omega), kst, c_emit k1 (by omega), bp_some]
        rw [show (ci (ca (ci S 11 (nI r.length)) 27 (upd ((ci S 11 (nI r.length)).2.1 27) k (-(nI o)))) 10 (nI (k + 1))).1 11 = nI r.length from rfl, chk_nI (by omega) (by decide), nI_clamp (by omega)]
        rw [show (ci (ca (ci S 11 (nI r.length)) 27 (upd ((ci S 11 (nI r.length)).2.1 27) k (-(nI o)))) 10 (nI (k + 1))).2.1 28 r.length = nI o from hst.1, lt_eq]
        rfl
      rw [e1]
      by_cases z3 : nI o = 33
      · rw [if_pos z3]
        obtain ⟨S', q1, q2⟩ := ih g (ci (ci (ca (ci S 11 (nI r.length)) 27 (upd (S.2.1 27) k (-(nI o)))) 10 (nI (k + 1))) 14 (S.1 14 - 1)) (k + 1) (by omega) rfl (by omega) rfl hst.2 hb'
        exact ⟨S', q1, gI_tr (gI_ci (gI_ci (gI_ca (gI_ci gI_rf (by decide)) (by decide)) (by decide)) (by decide)) q2 (fun _ z => z) (fun _ z => z)⟩
      · rw [if_neg z3]
        obtain ⟨S', q1, q2⟩ := ih g (ci (ca (ci S 11 (nI r.length)) 27 (upd (S.2.1 27) k (-(nI o)))) 10 (nI (k + 1))) (k + 1) (by omega) rfl (by omega) rfl hst.2 hb'
        exact ⟨S', q1, gI_tr (gI_ci (gI_ca (gI_ci gI_rf (by decide)) (by decide)) (by decide)) q2 (fun _ z => z) (fun _ z => z)⟩
theorem th_over {bb : Nat → Nat} {n : Nat} {S : CS} (ho : bbO bb n) (h : rdS bb n n S) : f_X5_readThing S = some (false, S) := by
  unfold f_X5_readThing
  by_cases c : S.1 13 = 60
  · rw [if_pos c]
  · rw [if_neg c, c_peek ho h (Nat.le_refl _), bp_some, c_dig ho h (Nat.le_refl _), bp_some]
    simp only [jn1]
    have h1 : sg bb n n = -1 := if_neg (Nat.lt_irrefl _)
    have h2 : isD bb n n = false := decide_eq_false (fun z => Nat.lt_irrefl _ z.1)
    rw [h1, h2, if_neg (by decide), if_pos (show (-1 : Int32) ≤ 0 by decide)]
theorem no_arith {S : CS} {x : Int32} (h1 : ¬ x = 42) (h2 : ¬ x = 47) (h3 : ¬ x = 43) (h4 : ¬ x = 45) : f_X5_readArithmetic S x = some (false, S) := by
  unfold f_X5_readArithmetic
  simp only [jn0]
  rw [if_neg h3, if_neg h4, if_neg h1, if_neg h2]
def Ksc : CS → Option FN := fun S23 => bp (f_X5_release S23 1) (fun S24 => bp (f_X5_endPart S24) (fun S25 => bp (f_X5_finished S25 2) (fun r => some r)))
theorem sL_over {bb : Nat → Nat} {n f t : Nat} {S : CS} (ho : bbO bb n) (h : rdS bb n n S) (ht : t ≤ n) : L_X5_readScore_28 Ksc (f + 1) S (nI t) = Ksc S := by
  have hn := ho.n
  unfold L_X5_readScore_28
  rw [lo2_succ]
  by_cases z : 600 ≤ t
  · rw [if_pos ((show (600 : Int32) = nI 600 from rfl) ▸ (nI_leI (by omega) (by omega)).mpr z)]
  · unfold f_X10_isOver
    rw [if_neg (fun q => by rw [show (600 : Int32) = nI 600 from rfl, nI_leI (by omega) (by omega)] at q; omega), h.l, h.p, if_neg (fun q => by rw [nI_ltI (by omega) (by omega)] at q; omega), bp_some, if_pos rfl]
theorem sL_in {bb : Nat → Nat} {n f t p : Nat} {S : CS} (ho : bbO bb n) (h : rdS bb n p S) (hp : p < n) (ht : t ≤ p) : L_X5_readScore_28 Ksc (f + 1) S (nI t) = (if (S.1 15) = 1 then bw (f_X5_readThing S) (fun x19 S20 => (if x19 = true then L_X5_readScore_28 Ksc f S20 (nI (t + 1)) else some (none, ci S20 5 (S20.1 2)))) else bw (f_X5_readArithmetic S (sg bb n p)) (fun x16 S17 => (if x16 = true then L_X5_readScore_28 Ksc f S17 (nI (t + 1)) else some (none, ci S17 5 (S17.1 2))))) := by
  have hn := ho.n
  unfold L_X5_readScore_28
  rw [lo2_succ]
  unfold f_X10_isOver
  rw [h.l, h.p, if_neg (fun z => by rw [show (600 : Int32) = nI 600 from rfl, nI_leI (by omega) (by omega)] at z; omega), if_pos ((nI_ltI (by omega) (by omega)).mpr hp), bp_some, if_neg (by decide)]
  simp only [jn1]
  rw [c_peek ho h (by omega), bp_some]
  simp only [lt_eq, nI_1]
  rfl
theorem mach_s {bb : Nat → Nat} {n : Nat} {Sb : CS} (ho : bbO bb n) (h12 : Sb.1 12 = nI 0) : mach bb n Sb (L_X5_readScore_28 Ksc) := by
  refine ⟨?_, ?_⟩
  · intro f S t p h hp ht h15 hg hok
    by_cases c : p < n
    · refine ⟨fun S' hr => ?_, fun S' hr => ⟨ci S' 5 (S'.1 2), ?_, rfl, gI_ci gI_rf (by decide)⟩⟩
      · rw [sL_in ho h c ht, if_pos h15, hr, bw_some, if_pos rfl]
      · rw [sL_in ho h c ht, if_pos h15, hr, bw_some, if_neg (by decide)]
    · have hpn : p = n := by omega
      subst hpn
      have hov := th_over ho h
      refine ⟨fun S' hr => ?_, fun S' hr => ?_⟩
      · rw [hov] at hr; cases hr
      · rw [hov] at hr; cases hr
        obtain ⟨k, ws, a1, a2, a3, a4, a5⟩ := hok
        obtain ⟨S1, q1, q2⟩ := c_relx ws FU S k (FU_gt (by omega)) a1 a2 a3 a4 a5
        have q1 : f_X5_release S 1 = some S1 := q1
        have e12 : S1.1 12 = nI 0 := by rw [q2.1 12 (by decide), hg.1 12 (by decide)]; exact h12
        have e2 : S1.1 2 = S.1 2 := q2.1 2 (by decide)
        have e15 : S1.1 15 = 1 := by rw [q2.1 15 (by decide)]; exact h15
        refine ⟨ci (ci (ca S1 29 (upd (S1.2.1 29) 0 (S1.1 10))) 12 (S1.1 12 + 1)) 5 (S1.1 2), ?_, e2, gI_ci (gI_ci (gI_ca (gI_tr gI_rf q2 (by decide) (by decide)) (by decide)) (by decide)) (by decide)⟩
        rw [sL_over ho h ht]
        show bp (f_X5_release _ 1) _ = _
        rw [q1, bp_some]
        unfold f_X5_endPart
        rw [e12, if_neg (show ¬ 8 ≤ nI 0 by decide), chk_nI (by decide) (by decide), lt_eq, lt_eq, bp_some]
        unfold f_X5_finished f_X10_failHere
        rw [show (ci (ca S1 29 (upd (S1.2.1 29) (nI 0).toNatClampNeg (S1.1 10))) 12 ((ca S1 29 (upd (S1.2.1 29) (nI 0).toNatClampNeg (S1.1 10))).1 12 + 1)).1 15 = 1 from e15, if_neg (by decide), lt_eq, bw_some, bp_some]
        show some (none, ci (ci (ca S1 29 (upd (S1.2.1 29) 0 (S1.1 10))) 12 (S1.1 12 + 1)) 5 (S1.1 2)) = _
        rw [e12]
  · intro f S t p S' h hp ht h15 hr
    rw [sL_in ho h hp ht, if_neg (by rw [h15]; decide), hr, bw_some, if_pos rfl]
/-! score: what both come to -/
def scQ (S0 : CS) (M0 : MS) (K : MS → Int32 → Option (Int32 × MS)) (oc : Option FN) (om : Option (Int32 × MS)) : Prop := (∃ S' M', oc = some (none, S') ∧ om = K M' 0 ∧ fC S0 S' ∧ fN M0 M' ∧ S'.1 5 = M'.1 7) ∨ (∃ S' M' cl es T, oc = some (some (cl.length, es.length), S') ∧ om = K M' 1 ∧ fC S0 S' ∧ fN M0 M' ∧ S'.1 5 = M'.1 7 ∧ hC (S'.2.1 27) cl ∧ (∀ i, i < es.length → S'.2.1 29 i = nI (es.getD i 0)) ∧ M'.1 11 = nI cl.length ∧ hM (M'.2 9) cl ∧ M'.1 12 = nI T ∧ S'.1 13 = nI T ∧ sOK es cl T)
theorem FU_1 : FU = 19999 + 1 := rfl
def Kfull (K : MS → Int32 → Option (Int32 × MS)) (S21 : MS) (x20 : Bool) : Option (Int32 × MS) := if x20 = true then (if (S21.1 6) = (S21.1 5) then K S21 1 else K (si S21 7 (S21.1 6)) 0) else K S21 0
theorem sc_core {bb : Nat → Nat} {n : Nat} {S : CS} {M : MS} (K : MS → Int32 → Option (Int32 × MS)) (ho : bbO bb n) (h : rdS bb n 0 S) (hm : rdM bb n 0 M) (h10 : S.1 10 = nI 0) (h11 : S.1 11 = nI 0) (h12 : S.1 12 = nI 0) (h13 : S.1 13 = nI 0) (h14 : S.1 14 = nI 0) (h15 : S.1 15 = 1) (m11 : M.1 11 = nI 0) (m12 : M.1 12 = nI 0) (hf : S.1 5 = M.1 7) : scQ S M K (L_X5_readScore_28 Ksc FU S (nI 0)) (bw (f_X12_readSum M) (fun x20 S21 => Kfull K S21 x20)) := by
  have hn := ho.n
  have hma := mach_s (Sb := S) ho h12
  have hr0 : fR bb n S M FU S 0 M 0 [] [] [] 0 0 := ⟨h, hm, Nat.zero_le _, Nat.le_refl _, by have := FU_gt (n := n + 2) (by omega); omega, gI_rf, fI_rf, h10, fun i hi => absurd hi (Nat.not_lt_zero _), h11, trivial, fun o ho => absurd ho List.not_mem_nil, h14, h13, m12, by omega, m11, fun i hi => absurd hi (Nat.not_lt_zero _), hf⟩
  rw [FU_1] at hr0 ⊢
  have hE : eGx bb n S M [] [] [] 0 0 0 (19999 + 1) S 0 M 0 0 := ⟨[], hr0, ⟨[], rfl, rfl⟩, Nat.le_refl _, Nat.le_refl _⟩
  rcases s_sum ho hma (w := []) trivial (by decide) (by decide) (by decide) hE (hma.th 19999 S 0 0 h (Nat.zero_le _) (Nat.le_refl _) h15 gI_rf ⟨0, [], h10, by decide, h11, trivial, fun o ho => absurd ho List.not_mem_nil⟩) with ⟨M', f', S', t', z1, z2, p', T', ⟨cl, u, hr, k15, ku, kul, ⟨dd, kdd, kty⟩, kcn, kst⟩, z4, z5, n1, n2, n3, n4⟩ | ⟨S', M', z1, z2, z3, z4, z5⟩
  · have hfu := hr.fu
    have hhi := hr.hi
    have hT := hr.T6
    have hp6 := hr.m.p
    have hl5 := hr.m.l
    have h33 : c33 u = 0 := c33_0 (fun x hx => by have := ku x hx; omega)
    have hlc : (cl ++ ng u).length = cl.length + u.length := by rw [List.length_append, ng_len]
    have gC : fC S S' := gI_tr gI_rf hr.gs (by decide) (by decide)
    have gN : fN M M' := fI_tr fI_rf hr.fm (by decide) (by decide)
    obtain ⟨f', rfl⟩ : ∃ j, f' = j + 1 := ⟨f' - 1, by omega⟩
    rw [z1, bw_some, z2]
    unfold Kfull
    rw [if_pos rfl, hp6, hl5]
    by_cases c : p' < n
    · rw [if_neg (fun q => by have := (nI_eq (by omega) (by omega)).mp q; omega), sL_in ho hr.s c hr.tp, if_neg (by rw [k15]; decide), no_arith n1 n2 n3 n4, bw_some, if_neg (by decide)]
      refine Or.inl ⟨_, _, rfl, rfl, gI_ci gC (by decide), fI_si gN (by decide), ?_⟩
      show S'.1 2 = nI p'
      exact hr.s.p
    · have hpn : p' = n := by omega
      subst hpn
      rw [if_pos rfl, sL_over ho hr.s hr.tp]
      have e0 : u ++ [] = u := List.append_nil u
      obtain ⟨S1, q1, q2, q3, q4, q5, q6⟩ := c_rel (s := 1) (by decide) (by decide) (w := []) trivial u FU S' cl 0 (FU_gt (by omega)) hr.c0 hr.ca hr.w0 hr.wa hr.wb (fun x hx => by have := ku x hx; omega) hr.ns (by omega) (by decide) (by omega) (by rw [e0]; omega)
      have q1 : f_X5_release S' 1 = some S1 := q1
      have e12 : S1.1 12 = nI 0 := by rw [q2.1 12 (by decide), hr.gs.1 12 (by decide)]; exact h12
      have e15 : S1.1 15 = 2 := by rw [q2.1 15 (by decide)]; exact k15
      refine Or.inr ⟨ci (ca S1 29 (upd (S1.2.1 29) 0 (S1.1 10))) 12 (nI 1), M', cl ++ ng u, [(cl ++ ng u).length], T', ?_, rfl, ?_, gN, ?_, q4, ?_, hr.mc, hr.ma, hr.mT, ?_, ?_⟩
      · show bp (f_X5_release _ 1) _ = _
        rw [q1, bp_some]
        unfold f_X5_endPart
        rw [e12, if_neg (show ¬ 8 ≤ nI 0 by decide), chk_nI (by decide) (by decide), lt_eq, lt_eq, bp_some]
        unfold f_X5_finished
        have x10 : (ci (ca S1 29 (upd (S1.2.1 29) (nI 0).toNatClampNeg (S1.1 10))) 12 ((ca S1 29 (upd (S1.2.1 29) (nI 0).toNatClampNeg (S1.1 10))).1 12 + 1)).1 10 = nI (cl ++ ng u).length := q3
        have x12 : (ci (ca S1 29 (upd (S1.2.1 29) (nI 0).toNatClampNeg (S1.1 10))) 12 ((ca S1 29 (upd (S1.2.1 29) (nI 0).toNatClampNeg (S1.1 10))).1 12 + 1)).1 12 = nI 1 := by
          show S1.1 12 + 1 = _
          rw [e12]; rfl
        rw [show (ci (ca S1 29 (upd (S1.2.1 29) (nI 0).toNatClampNeg (S1.1 10))) 12 ((ca S1 29 (upd (S1.2.1 29) (nI 0).toNatClampNeg (S1.1 10))).1 12 + 1)).1 15 = 2 from e15, if_pos rfl, x10, x12, chk_nI (by omega) (by decide), chk_nI (by decide) (by decide), nI_clamp (by omega), nI_clamp (by decide), bp_some]
        show some (some ((cl ++ ng u).length, 1), ci (ca S1 29 (upd (S1.2.1 29) 0 (S1.1 10))) 12 (S1.1 12 + 1)) = _
        rw [e12]; rfl
      · exact gI_ci (gI_ca (gI_tr gC q2 (by decide) (by decide)) (by decide)) (by decide)
      · show S1.1 5 = _
        rw [q2.1 5 (by decide)]; exact hr.fa
      · intro i hi
        have hi0 : i = 0 := Nat.lt_one_iff.mp hi
        subst hi0
        show upd (S1.2.1 29) 0 (S1.1 10) 0 = _
        rw [pk_us, q3]; rfl
      · show S1.1 13 = _
        rw [q2.1 13 (by decide)]; exact hr.sT
      · exact ⟨by omega, hT, Or.inr ⟨rfl, by omega, false, by rw [kdd]; exact kty⟩⟩
  · rw [z1, bw_some, z2]
    exact Or.inl ⟨S', M', rfl, by unfold Kfull; rw [if_neg (by decide)], z3, z4, z5⟩
def WW.wS (W : WW) (es : List Nat) (cs : List Int32) (st : Nat) : WW := (W.V, W.L, W.ne, W.nc, es, cs, st)
def WW.wN (W : WW) (es : List Nat) (cs : List Int32) : WW := (W.V, W.L, es, cs, W.se, W.sc, W.st)
theorem tR_cg {W : WW} {A B : Nat → Int32} (hw : WOK W) (hR : tR W.V A) (hc : ∀ i, i < 725 → B i = A i) : tR W.V B := by
  have h6 := hw.V.ne
  have h8 := hw.V.np
  have h16 := hw.V.na
  have h60 := hw.V.n
  exact ⟨by rw [hc _ (by omega)]; exact hR.ne, by rw [hc _ (by omega)]; exact hR.np, by rw [hc _ (by omega)]; exact hR.na, by rw [hc _ (by omega)]; exact hR.n, by rw [hc _ (by omega)]; exact hR.td, fun i hi => (by rw [hc _ (by omega)]; exact hR.e0 i hi), fun i hi => (by rw [hc _ (by omega)]; exact hR.e1 i hi), fun i hi => (by rw [hc _ (by omega)]; exact hR.p0 i hi), fun i hi => (by rw [hc _ (by omega)]; exact hR.p1 i hi), fun i hi => (by rw [hc _ (by omega)]; exact hR.a0 i hi), fun i hi => (by rw [hc _ (by omega)]; exact hR.a1 i hi), fun i hi => (by rw [hc _ (by omega)]; exact hR.ev i hi), fun i hi => (by rw [hc _ (by omega)]; exact hR.ath i hi), fun i hi => (by rw [hc _ (by omega)]; exact hR.pl i hi), fun i hi => (by rw [hc _ (by omega)]; exact hR.dy i hi), fun i hi => (by rw [hc _ (by omega)]; exact hR.mi i hi), fun i hi => (by rw [hc _ (by omega)]; exact hR.va i hi), fun i hi => (by rw [hc _ (by omega)]; exact hR.wi i hi), fun i hi => (by rw [hc _ (by omega)]; exact hR.sh i hi), fun i hi => (by rw [hc _ (by omega)]; exact hR.pa i hi), fun i hi => (by rw [hc _ (by omega)]; exact hR.ra i hi), fun i hi => (by rw [hc _ (by omega)]; exact hR.sk i hi)⟩
