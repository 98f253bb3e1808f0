/-! needs: all conds -/
theorem lo3_succ {α1 α2 α3 ρ : Type} (body : (α1 → α2 → α3 → Option ρ) → α1 → α2 → α3 → Option ρ) (n : Nat) : lo3 body (n + 1) = body (lo3 body n) := rfl
theorem fR_M2 {bb : Nat → Nat} {n : Nat} {Sb : CS} {Mb : MS} {f : Nat} {S : CS} {t : Nat} {M M' : MS} {p : Nat} {cl : List Int32} {u w : List Nat} {T nst : Nat} (h : fR bb n Sb Mb f S t M p cl u w T nst) (hf : fI [16] [10, 13, 14, 15] M M') : fR bb n S M' f S t M' p cl u w T nst := ⟨h.s, rdM_fI h.m hf (by decide) (by decide) (by rw [hf.1 6 (by decide)]; exact h.m.p), h.hi, h.tp, h.fu, gI_rf, fI_rf, h.c0, h.ca, h.w0, h.wa, h.wb, h.ns, h.sT, by rw [hf.1 12 (by decide)]; exact h.mT, h.T6, by rw [hf.1 11 (by decide)]; exact h.mc, by rw [hf.2 9 (by decide)]; exact h.ma, by rw [hf.1 7 (by decide)]; exact h.fa⟩
theorem bgn_0 {es : List Nat} : bgn es 0 = 0 := if_pos rfl
theorem bgn_s {es : List Nat} {i : Nat} : bgn es (i + 1) = es.getD i 0 := if_neg (Nat.succ_ne_zero _)
theorem bgn_app {es : List Nat} {y i : Nat} (h : i ≤ es.length) : bgn (es ++ [y]) i = bgn es i := by
  cases i with
  | zero => rw [bgn_0, bgn_0]
  | succ i => rw [bgn_s, bgn_s, getD_app_l (by omega)]
theorem nOK_push {es : List Nat} {cl d : List Int32} (h : nOK es cl) (hb : bgn es es.length = cl.length) (hd : tyL d [] = some [true]) (h8 : es.length < 8) (hl : (cl ++ d).length ≤ 310) : nOK (es ++ [(cl ++ d).length]) (cl ++ d) := by
  have hlen : (es ++ [(cl ++ d).length]).length = es.length + 1 := List.length_append
  have hld : (cl ++ d).length = cl.length + d.length := List.length_append
  refine ⟨by omega, hl, fun i hi => ?_, fun i hi => ?_⟩
  · rw [hlen] at hi
    rw [bgn_app (by omega)]
    by_cases z : i < es.length
    · rw [getD_app_l z]
      have := h.b i z
      omega
    · have e : i = es.length := by omega
      subst e
      rw [getD_app_e, hb]
      omega
  · rw [hlen] at hi
    rw [bgn_app (by omega)]
    by_cases z : i < es.length
    · rw [getD_app_l z]
      have hbi := h.b i z
      rw [List.drop_append_of_le_length (by omega), List.take_append_of_le_length (by rw [List.length_drop]; omega)]
      exact h.t i z
    · have e : i = es.length := by omega
      subst e
      rw [getD_app_e, hb, List.drop_left, hld, Nat.add_sub_cancel_left, List.take_length]
      exact hd
def ndG (bb : Nat → Nat) (n : Nat) (S0 : CS) (M0 : MS) (f : Nat) (S : CS) (t : Nat) (M : MS) (p T C : Nat) (cl : List Int32) (es : List Nat) : Prop := fR bb n S M f S t M p cl [] [] T 0 ∧ S.1 15 = 4 ∧ fC S0 S ∧ fN M0 M ∧ S.1 12 = nI es.length ∧ (∀ i, i < es.length → S.2.1 29 i = nI (es.getD i 0)) ∧ (∀ i, i < es.length → M.2 10 i = nI (bgn es i)) ∧ bgn es es.length = cl.length ∧ nOK es cl ∧ cl.length ≤ 2 * T + 6 * C ∧ 2 * C ≤ T
def ndQ (S0 : CS) (M0 : MS) (K : MS → Int32 → Int32 → Option (Int32 × MS)) (oc : Option FN) (om : Option (Int32 × MS)) : Prop := (∃ S' M' x, oc = some (none, S') ∧ om = K M' x 0 ∧ fC S0 S' ∧ fN M0 M' ∧ S'.1 5 = M'.1 7) ∨ (∃ S' M' cl es, oc = some (some (cl.length, es.length), S') ∧ om = K M' (nI es.length) 1 ∧ fC S0 S' ∧ fN M0 M' ∧ S'.1 5 = M'.1 7 ∧ hC (S'.2.1 27) cl ∧ (∀ i, i < es.length → S'.2.1 29 i = nI (es.getD i 0)) ∧ M'.1 11 = nI cl.length ∧ hM (M'.2 9) cl ∧ (∀ i, i < es.length → M'.2 10 i = nI (bgn es i)) ∧ bgn es es.length = cl.length ∧ nOK es cl)
theorem e_nd0 {K : MS → Int32 → Int32 → Option (Int32 × MS)} {g : Nat} {M : MS} {x : Int32} : L_X12_needs_8 K (g + 1) M x 0 = K M x 0 := by
  show lo3 _ (g + 1) M x 0 = _
  rw [lo3_succ]
  rw [if_pos rfl]
theorem e_ndo {K : MS → Int32 → Int32 → Option (Int32 × MS)} {g : Nat} {M : MS} {x : Int32} (h : M.1 5 ≤ M.1 6) : L_X12_needs_8 K (g + 1) M x 1 = K M x 1 := by
  show lo3 _ (g + 1) M x 1 = _
  rw [lo3_succ]
  rw [if_neg (by decide), if_pos h]
theorem e_nd8 {K : MS → Int32 → Int32 → Option (Int32 × MS)} {g : Nat} {M : MS} (h : ¬ M.1 5 ≤ M.1 6) : L_X12_needs_8 K (g + 1) M (nI 8) 1 = L_X12_needs_8 K g (si (sa M 10 (upd (M.2 10) 8 (M.1 11))) 7 (M.1 6)) (nI 8) 0 := by
  show lo3 _ (g + 1) M (nI 8) 1 = _
  rw [lo3_succ]
  rw [if_neg (by decide), if_neg h, chk_nI (by decide) (by decide), lt_eq]
  unfold jn2 jn1 f_X12_fails
  dsimp only
  rw [if_pos (show (8 : Int32) ≤ nI 8 by decide), lt_eq, bw_some, if_pos (show b2 false = 0 from rfl), lt_eq]
  rfl
theorem e_ndc {K : MS → Int32 → Int32 → Option (Int32 × MS)} {g nd : Nat} {M : MS} (h : ¬ M.1 5 ≤ M.1 6) (hn : nd < 8) : L_X12_needs_8 K (g + 1) M (nI nd) 1 = bw (f_X12_readCond (sa M 10 (upd (M.2 10) nd (M.1 11)))) (fun x20 S21 => if x20 = true then L_X12_needs_8 K g S21 (nI (nd + 1)) 1 else L_X12_needs_8 K g S21 (nI nd) 0) := by
  have e0 : nI nd + 0 = nI nd := nI_add nd 0
  show lo3 _ (g + 1) M (nI nd) 1 = _
  rw [lo3_succ]
  rw [if_neg (by decide), if_neg h, chk_nI (by omega) (by decide), lt_eq, nI_clamp (by omega)]
  unfold jn2 jn1
  dsimp only
  rw [if_neg (fun z => by rw [show (8 : Int32) = nI 8 from rfl, nI_leI (by omega) (by omega)] at z; omega)]
  refine congrArg (bw _) (funext fun x20 => funext fun S21 => ?_)
  cases x20 with
  | true => rw [if_neg (show ¬ b2 true = 0 by decide), if_pos rfl, lt_eq, nI_1]; rfl
  | false => rw [if_pos (show b2 false = 0 from rfl), if_neg (by decide), lt_eq, e0]; rfl
theorem nd_over {bb : Nat → Nat} {n : Nat} {S0 : CS} {M0 : MS} (K : MS → Int32 → Int32 → Option (Int32 × MS)) (ho : bbO bb n) {g f : Nat} {S : CS} {t : Nat} {M : MS} {p T C : Nat} {cl : List Int32} {es : List Nat} (hg : 0 < g) (hp : p = n) (h : ndG bb n S0 M0 f S t M p T C cl es) : ndQ S0 M0 K (L_X5_readNeeds_7 Knd f S (nI t)) (L_X12_needs_8 K g M (nI es.length) 1) := by
  have hn6 := ho.n
  subst hp
  obtain ⟨hr, h15, gS, gM, h12, hE, hB, hbl, hok, hcn, hC2⟩ := h
  have hfu := hr.fu
  have h8 := hok.n8
  have h310 := hok.c
  obtain ⟨f, rfl⟩ : ∃ j, f = j + 1 := ⟨f - 1, by omega⟩
  obtain ⟨g, rfl⟩ : ∃ j, g = j + 1 := ⟨g - 1, by omega⟩
  have mc : M.1 11 = nI cl.length := by have := hr.mc; rw [app0] at this; exact this
  have ma : hM (M.2 9) cl := by have := hr.ma; rw [app0] at this; exact this
  rw [nL_over ho hr.s hr.tp, e_ndo (by rw [hr.m.l, hr.m.p]; exact (nI_leI (by omega) (by omega)).mpr (Nat.le_refl _))]
  refine Or.inr ⟨S, M, cl, es, ?_, rfl, gS, gM, hr.fa, hr.ca, hE, mc, ma, hB, hbl, hok⟩
  show bp (f_X5_finished S 4) _ = _
  unfold f_X5_finished
  rw [if_pos h15, hr.c0, h12, chk_nI (by omega) (by decide), chk_nI (by omega) (by decide), nI_clamp (by omega), nI_clamp (by omega), bp_some]
theorem nd_loop {bb : Nat → Nat} {n : Nat} {S0 : CS} {M0 : MS} (K : MS → Int32 → Int32 → Option (Int32 × MS)) (ho : bbO bb n) : ∀ (k g f : Nat) (S : CS) (t : Nat) (M : MS) (p T C : Nat) (cl : List Int32) (es : List Nat), n - p ≤ k → k + 1 < g → ndG bb n S0 M0 f S t M p T C cl es → ndQ S0 M0 K (L_X5_readNeeds_7 Knd f S (nI t)) (L_X12_needs_8 K g M (nI es.length) 1) := by
  have hn6 := ho.n
  intro k
  induction k with
  | zero =>
    intro g f S t M p T C cl es hk hg h
    exact nd_over K ho (by omega) (by have := h.1.hi; omega) h
  | succ k ih =>
    intro g f S t M p T C cl es hk hg h
    by_cases c : p < n
    · obtain ⟨hr, h15, gS, gM, h12, hE, hB, hbl, hok, hcn, hC2⟩ := h
      have hT := hr.T6
      have hfu := hr.fu
      have h8 := hok.n8
      obtain ⟨f, rfl⟩ : ∃ j, f = j + 1 := ⟨f - 1, by omega⟩
      obtain ⟨g, rfl⟩ : ∃ j, g = j + 1 + 1 := ⟨g - 2, by omega⟩
      have hnl : ¬ M.1 5 ≤ M.1 6 := by rw [hr.m.l, hr.m.p, nI_leI (by omega) (by omega)]; omega
      have mc : M.1 11 = nI cl.length := by have := hr.mc; rw [app0] at this; exact this
      by_cases z8 : es.length = 8
      · rw [z8, e_nd8 hnl, e_nd0]
        refine Or.inl ⟨ci S 5 (S.1 2), _, _, ?_, rfl, gI_ci gS (by decide), fI_si (fI_sa gM (by decide)) (by decide), ?_⟩
        · rw [nL_in ho hr.s c hr.tp, nx_4 ho hr.s hr.hi h15, if_pos (by rw [h12, z8]; decide), bw_some, if_neg (by decide)]
        · show S.1 2 = M.1 6
          rw [hr.s.p, hr.m.p]
      · have hnd : es.length < 8 := by omega
        rw [e_ndc hnl hnd, mc]
        have R3 := fR_M2 (M' := sa (sa (si (sa M 10 (upd (M.2 10) es.length (nI cl.length))) 16 0) 14 (upd (M.2 14) 0 0)) 15 (upd (M.2 15) 0 0)) hr (fI_sa (fI_sa (fI_si (fI_sa fI_rf (by decide)) (by decide)) (by decide)) (by decide))
        have hc := cond_all (S0 := S) (M0 := sa M 10 (upd (M.2 10) es.length (nI cl.length))) (c0 := cl) (p0 := p) ho h12 hnd n FU (f + 1) S t (sa (sa (si (sa M 10 (upd (M.2 10) es.length (nI cl.length))) 16 0) 14 (upd (M.2 14) 0 0)) 15 (upd (M.2 15) 0 0)) p T C (false, false, 0) [] (by omega) (FU_gt (by omega)) (Nat.le_refl _) ⟨cl, R3, ⟨gI_rf, fI_sa (fI_sa (fI_si fI_rf (by decide)) (by decide)) (by decide)⟩, Nat.zero_le _, ⟨(show upd (M.2 14) 0 0 0 = 0 from pk_us), (show upd (M.2 15) 0 0 0 = 0 from pk_us), fun z => absurd rfl z, trivial⟩, rfl, ⟨[], (List.append_nil cl).symm, rfl⟩, hcn, hC2, Nat.zero_le _, Or.inr ⟨h15, c, by rw [h12]; exact fun z => (by rw [show (8 : Int32) = nI 8 from rfl, nI_leI (by omega) (by omega)] at z; omega)⟩⟩
        have ec : f_X12_readCond (sa M 10 (upd (M.2 10) es.length (nI cl.length))) = L_X12_readCond_19 FU (sa (sa (si (sa M 10 (upd (M.2 10) es.length (nI cl.length))) 16 0) 14 (upd (M.2 14) 0 0)) 15 (upd (M.2 15) 0 0)) := by
          unfold f_X12_readCond
          rw [lt_eq, chk_of (i := 0) (k := 0) rfl (by decide) (by decide), lt_eq, chk_of (i := 0) (k := 0) rfl (by decide) (by decide), lt_eq, vb_0]
          rfl
        rw [ec]
        rcases hc with ⟨M', f', S', t', z1, z2, p', T', C', cl', hr', hpp, h15', gS', h12', h29', gM', ⟨d, rfl, hd⟩, hcn', hC2'⟩ | ⟨S', M', z1, z2, z3, z4, z5⟩
        · have hT' := hr'.T6
          have hlen : (es ++ [(cl ++ d).length]).length = es.length + 1 := List.length_append
          have gMM : fN M0 M' := fI_tr (fI_sa gM (by decide)) gM' (by decide) (by decide)
          rw [z1, bw_some, if_pos rfl, z2, ← hlen]
          have e10 : M'.2 10 = upd (M.2 10) es.length (nI cl.length) := gM'.2 10 (by decide)
          refine ih (g + 1) f' S' t' M' p' T' C' (cl ++ d) (es ++ [(cl ++ d).length]) (by omega) (by omega) ⟨hr', h15', gI_tr gS gS' (fun _ z => z) (fun _ z => z), gMM, ?_, ?_, ?_, ?_, nOK_push hok hbl hd hnd (by omega), hcn', hC2'⟩
          · rw [h12', h12, hlen, nI_1]
          · intro i hi
            rw [hlen] at hi
            rw [h29', h12, nI_clamp (by omega)]
            by_cases z : i < es.length
            · rw [getD_app_l z, pk_un (by omega)]; exact hE i z
            · have e : i = es.length := by omega
              subst e
              rw [getD_app_e, pk_us]
          · intro i hi
            rw [hlen] at hi
            rw [bgn_app (by omega), e10]
            by_cases z : i < es.length
            · rw [pk_un (by omega)]; exact hB i z
            · have e : i = es.length := by omega
              subst e
              rw [pk_us, hbl]
          · rw [hlen, bgn_s, getD_app_e]
        · rw [z1, bw_some, if_neg (by decide), e_nd0, z2]
          exact Or.inl ⟨S', M', _, rfl, rfl, gI_tr gS z3 (fun _ z => z) (fun _ z => z), fI_tr (fI_sa gM (by decide)) z4 (fun _ z => z) (fun _ z => z), z5⟩
    · exact nd_over K ho (by omega) (by have := h.1.hi; omega) h
