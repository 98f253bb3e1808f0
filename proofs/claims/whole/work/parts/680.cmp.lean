/-! needs: a comparison, a cond -/
section
variable {bb : Nat → Nat} {n : Nat} {S0 : CS} {M0 : MS} {c0 : List Int32} {p0 nd : Nat}
theorem cmp_ok {S : CS} {o : Nat} (h16 : S.1 16 = 0) (h : o ∈ [60, 61, 62]) : f_X5_readComparing S (nI o) = bp (f_X5_release (ci S 16 1) (nI 4)) (fun S2 => bw (f_X5_await S2 (nI o) 1) (fun x3 S4 => some (x3, S4))) := by
  unfold f_X5_readComparing
  simp only [jn0]
  rw [if_pos h16]
  simp only [List.mem_cons, List.not_mem_nil, or_false] at h
  rcases h with rfl | rfl | rfl
  · rw [if_pos (show nI 60 = 60 from rfl), lt_eq, c_strn (by decide), bp_some]; rfl
  · rw [if_neg (show ¬ nI 61 = 60 by decide), if_neg (show ¬ nI 61 = 62 by decide), if_pos (show nI 61 = 61 from rfl), lt_eq, c_strn (by decide), bp_some]; rfl
  · rw [if_neg (show ¬ nI 62 = 60 by decide), if_pos (show nI 62 = 62 from rfl), lt_eq, c_strn (by decide), bp_some]; rfl
theorem cmp_no {S : CS} {x : Int32} (h16 : S.1 16 = 0) (h1 : ¬ x = 60) (h2 : ¬ x = 62) (h3 : ¬ x = 61) : f_X5_readComparing S x = some (false, S) := by
  unfold f_X5_readComparing
  simp only [jn0]
  rw [if_pos h16, if_neg h1, if_neg h2, if_neg h3]
theorem top_45 {w : List Nat} (h : topL 4 w) : topL 5 w := by
  cases w with
  | nil => trivial
  | cons o r =>
    have h : strn o < 4 := h
    show strn o < 5
    omega
theorem cond_cmp {g f : Nat} {S : CS} {t : Nat} {M : MS} {p T C : Nat} {x : LV} {r : List LV} (ho : bbO bb n) (h12 : S0.1 12 = nI nd) (hnd : nd < 8) (hp0 : p0 ≤ p) (IH : ∀ (f : Nat) (S : CS) (t : Nat) (M : MS) (p' T C : Nat) (x : LV) (r : List LV), p < p' → hG bb n S0 M0 c0 f S t M p' T C x r → pQ (L_X5_readNeeds_7 Knd) S0 M0 (L_X5_readNeeds_7 Knd f S (nI t)) (L_X12_readCond_19 g M) (cE bb n S0 M0 c0 p0)) (n1 : ¬ sg bb n p = 33) (n2 : ¬ sg bb n p = 40) (h : hG bb n S0 M0 c0 f S t M p T C x r) : pQ (L_X5_readNeeds_7 Knd) S0 M0 (L_X5_readNeeds_7 Knd f S (nI t)) (bw (f_X12_readCompared M) (fun x13 S14 => if x13 = true then bw (f_X12_behindTest S14) (ctB g) else some (false, S14))) (cE bb n S0 M0 c0 p0) := by
  have hn6 := ho.n
  obtain ⟨cl, hr, ⟨cb1, cb2⟩, hr6, hlv, h16, hty, hcn, hC2, hcT, h15⟩ := h
  have hfu := hr.fu
  have hhi := hr.hi
  have hT := hr.T6
  obtain ⟨f, rfl⟩ : ∃ j, f = j + 1 := ⟨f - 1, by omega⟩
  have hwl := wL_len (r := r) (x := x)
  have htop := top_3 hlv
  have hrl : (List.replicate (cntL (x :: r)) true).length = cntL (x :: r) := List.length_replicate
  have hr1 : fR bb n (ci S 16 0) M (f + 1) (ci S 16 0) t M p cl [] (wL (x :: r)) T r.length := ⟨⟨hr.s.l, hr.s.p, hr.s.b⟩, hr.m, hr.hi, hr.tp, hr.fu, gI_rf, fI_rf, hr.c0, hr.ca, hr.w0, hr.wa, hr.wb, hr.ns, hr.sT, hr.mT, hr.T6, hr.mc, hr.ma, hr.fa⟩
  have cb1' : gI [2, 3, 5, 10, 11, 13, 14, 15, 16] [27, 28] S0 (ci S 16 0) := gI_ci cb1 (by decide)
  have hE1 : eGx bb n (ci S 16 0) M c0 (List.replicate (cntL (x :: r)) true) (wL (x :: r)) r.length (aL (x :: r)) (6 * C + r.length) (f + 1) (ci S 16 0) t M p T := ⟨cl, hr1, hty, by omega, by omega⟩
  rw [e_cmp]
  rcases s_sum ho (mach_n ho) (top_45 htop) (by omega) (by omega) (by omega) hE1 (nk_first ho hr.s hr.hi hr.tp h15 n2 n1) with ⟨M2, f2, S2, t2, m1, m2, p2, T2, ⟨cl2, u2, hr2, k15, ku, kul, kty, kcn, kst⟩, kT, kp, j1, j2, j3, j4⟩ | hbad
  · have hT2 := hr2.T6
    have hfu2 := hr2.fu
    have hhi2 := hr2.hi
    have htp2 := hr2.tp
    have e16 : S2.1 16 = 0 := hr2.gs.1 16 (by decide)
    have cb2S : gI [2, 3, 5, 10, 11, 13, 14, 15, 16] [27, 28] S0 S2 := gI_tr cb1' hr2.gs (by decide) (by decide)
    have cb2M : fI [6, 7, 8, 11, 12, 16] [9, 13, 14, 15] M0 M2 := fI_tr cb2 hr2.fm (by decide) (by decide)
    rw [m1, bw_some, if_pos rfl, m2, m_here ho hr2.m hr2.hi, bp_some]
    obtain ⟨f2, rfl⟩ : ∃ j, f2 = j + 1 := ⟨f2 - 1, by omega⟩
    by_cases c : sg bb n p2 = 60 ∨ sg bb n p2 = 62 ∨ sg bb n p2 = 61
    · rw [if_pos c]
      have hx : ∃ o, sg bb n p2 = nI o ∧ o ∈ [60, 61, 62] ∧ strn o = 4 ∧ o ∈ opsL ∧ o < 256 := by
        rcases c with c | c | c
        · exact ⟨60, c, by decide, rfl, by decide, by decide⟩
        · exact ⟨62, c, by decide, rfl, by decide, by decide⟩
        · exact ⟨61, c, by decide, rfl, by decide, by decide⟩
      obtain ⟨o, hsg, hoo, hos, hol, ho256⟩ := hx
      have hp2 := sg_lt hsg ho256
      have h33 : c33 u2 = 0 := c33_0 (fun q hq => by have := ku q hq; omega)
      have hlc : (cl2 ++ ng u2).length = cl2.length + u2.length := by rw [List.length_append, ng_len]
      have hlw : (u2 ++ wL (x :: r)).length = u2.length + (wL (x :: r)).length := List.length_append
      obtain ⟨S3, q1, q2, q3, q4, q5, q6, q7, q8, q9⟩ := c_op (S := ci S2 16 1) (o := o) (x := 1) (s := 4) (by decide) (by decide) htop hr2.c0 hr2.ca hr2.w0 hr2.wa hr2.wb (fun q hq => by have := ku q hq; omega) hr2.ns (by omega) (by omega) (by omega) (by omega) hr2.s.p
      have hr2' : fR bb n (ci S2 16 1) M2 (f2 + 1) (ci S2 16 1) t2 M2 p2 cl2 u2 (wL (x :: r)) T2 r.length := ⟨⟨hr2.s.l, hr2.s.p, hr2.s.b⟩, hr2.m, hr2.hi, hr2.tp, hr2.fu, gI_rf, fI_rf, hr2.c0, hr2.ca, hr2.w0, hr2.wa, hr2.wb, hr2.ns, hr2.sT, hr2.mT, hr2.T6, hr2.mc, hr2.ma, hr2.fa⟩
      have R3 := fR_rb (fR_op hr2' hp2 ho256 q2 q3 q4 q5 q6 q7 q8)
      rw [h33, Nat.sub_zero] at R3
      have estep : L_X5_readNeeds_7 Knd (f2 + 1) S2 (nI t2) = L_X5_readNeeds_7 Knd f2 S3 (nI (t2 + 1)) := by
        rw [nL_in ho hr2.s hp2 hr2.tp, nx_2 ho hr2.s hr2.hi k15, no_arith j1 j2 j3 j4, bw_some, if_neg (by decide), hsg, cmp_ok e16 hoo, q1, bw_some, if_pos rfl, bw_some, if_pos rfl]
      rw [estep]
      have e163 : S3.1 16 = 1 := q2.1 16 (by decide)
      have cb3S : gI [2, 3, 5, 10, 11, 13, 14, 15, 16] [27, 28] S0 S3 := gI_tr (gI_ci cb2S (by decide)) q2 (by decide) (by decide)
      have cb3M : fI [6, 7, 8, 11, 12, 16] [9, 13, 14, 15] M0 (si M2 6 (M2.1 6 + 1)) := fI_si cb2M (by decide)
      obtain ⟨f2, rfl⟩ : ∃ j, f2 = j + 1 := ⟨f2 - 1, by omega⟩
      have hE2 : eGx bb n S3 (si M2 6 (M2.1 6 + 1)) c0 (false :: List.replicate (cntL (x :: r)) true) (o :: wL (x :: r)) r.length (aL (x :: r) + 1) (6 * (C + 1)) (f2 + 1) S3 (t2 + 1) (si M2 6 (M2.1 6 + 1)) (p2 + 1) T2 := ⟨cl2 ++ ng u2, R3, kty, by omega, by rw [List.length_cons]; omega⟩
      rcases s_sum ho (mach_n ho) (show topL 5 (o :: wL (x :: r)) by show strn o < 5; omega) (by rw [List.length_cons]; omega) (by omega) (by omega) hE2 ((mach_n (Sb := S3) ho).th f2 S3 (t2 + 1) (p2 + 1) R3.s R3.hi R3.tp q9 gI_rf ⟨(cl2 ++ ng u2).length, o :: wL (x :: r), R3.c0, by rw [List.length_cons]; omega, R3.w0, R3.wa, R3.wb⟩) with ⟨M4, f4, S4, t4, v1, v2, p4, T4, ⟨cl4, u4, hr4, w15, wu, wul, wty, wcn, wst⟩, wT', wp, y1, y2, y3, y4⟩ | hbad
      · have hT4 := hr4.T6
        rw [v1, bw_some, if_pos rfl, v2, hsg]
        obtain ⟨M5, d1, d2, d3⟩ := fR_does (x := 20000000 + nI o) hr4 (op_m hol) (by omega)
        rw [d1, bp_some, bw_some, if_pos rfl]
        have ec : cl4 ++ ng (u4 ++ [o]) = (cl4 ++ ng u4) ++ [-(nI o)] := by rw [ng_app, List.append_assoc]; rfl
        have el : ((cl4 ++ ng u4) ++ [-(nI o)]).length = (cl4 ++ ng u4).length + 1 := List.length_append
        have elu : ((u4 ++ [o]) ++ wL (x :: r)).length = u4.length + 1 + (wL (x :: r)).length := by rw [List.length_append, List.length_append]; rfl
        have hst1 : (false :: List.replicate (cntL (x :: r)) true).length = (List.replicate (cntL (x :: r)) true).length + 1 := List.length_cons
        have hu5 : ∀ q, q ∈ u4 ++ [o] → 4 ≤ strn q := by
          intro q hq
          rcases List.mem_append.mp hq with hq | hq
          · have := wu q hq; omega
          · rw [List.mem_singleton.mp hq]; omega
        have R5 : fR bb n S4 M5 f4 S4 t4 M5 p4 cl4 (u4 ++ [o]) (wL (x :: r)) T4 (r.length + c33 (u4 ++ [o])) := by rw [c33_0 hu5]; exact fR_rb d2
        have FM : fI [6, 7, 8, 11, 12, 16] [9, 13, 14, 15] M0 M5 := fI_tr (fI_tr cb3M hr4.fm (by decide) (by decide)) d3 (by decide) (by decide)
        have e13 : M5.2 13 = M.2 13 := (d3.2 13 (by decide)).trans ((hr4.fm.2 13 (by decide)).trans (hr2.fm.2 13 (by decide)))
        have e14 : M5.2 14 = M.2 14 := (d3.2 14 (by decide)).trans ((hr4.fm.2 14 (by decide)).trans (hr2.fm.2 14 (by decide)))
        have e15 : M5.2 15 = M.2 15 := (d3.2 15 (by decide)).trans ((hr4.fm.2 15 (by decide)).trans (hr2.fm.2 15 (by decide)))
        have e16m : M5.1 16 = M.1 16 := (d3.1 16 (by decide)).trans ((hr4.fm.1 16 (by decide)).trans (hr2.fm.1 16 (by decide)))
        have e164 : S4.1 16 = 1 := (hr4.gs.1 16 (by decide)).trans e163
        unfold f_X12_behindTest
        refine bt_all (ps := p) ho h12 hnd hp0 IH 700 FU f4 S4 t4 M5 p4 T4 (C + 1) x r (by omega) (FU_gt (by omega)) (by omega) ⟨cl4, u4 ++ [o], R5, ⟨gI_tr cb3S hr4.gs (by decide) (by decide), FM⟩, hr6, lvT_cg hlv (fun i _ => by rw [e13]) (fun i _ => by rw [e14]) (fun i _ => by rw [e15]), by rw [e16m]; exact h16, ?_, by rw [ec, el]; omega, by omega, by omega, fun q hq => (by have := hu5 q hq; omega), by omega, Or.inl ⟨w15, by rw [e164]; decide, y1, y2, y3, y4⟩⟩
        rw [ec]
        exact tyD_1 wty (ty_cm hoo)
      · have hb2 := fBad_tr hbad (gI_tr gI_rf cb3S (by decide) (by decide)) (fI_tr fI_rf cb3M (by decide) (by decide))
        obtain ⟨S', M', z1, z2, z3⟩ := hb2
        rw [z1, bw_some, if_neg (by decide), bw_some, if_neg (by decide)]
        exact Or.inr ⟨S', M', rfl, z2, z3⟩
    · rw [if_neg c, bw_some, if_neg (by decide)]
      have c1 : ¬ sg bb n p2 = 60 := fun z => c (Or.inl z)
      have c2 : ¬ sg bb n p2 = 62 := fun z => c (Or.inr (Or.inl z))
      have c3 : ¬ sg bb n p2 = 61 := fun z => c (Or.inr (Or.inr z))
      have hk : CLk (L_X5_readNeeds_7 Knd) (L_X5_readNeeds_7 Knd (f2 + 1) S2 (nI t2)) f2 t2 (some (false, S2)) := by
        refine nk ho hr2.s hr2.hi hr2.tp (fun _ => ?_) (fun _ => ⟨S2, rfl, rfl, fC_5⟩) (fun _ => by rw [k15]; decide)
        rw [nx_2 ho hr2.s hr2.hi k15, no_arith j1 j2 j3 j4, bw_some, if_neg (by decide), cmp_no e16 c1 c2 c3, bw_some, if_neg (by decide), if_pos e16]
      obtain ⟨S'', i1, i2, i3⟩ := hk.2 S2 rfl
      exact Or.inr ⟨S'', _, rfl, i1, gI_tr (gI_tr gI_rf cb2S (by decide) (by decide)) i3 (fun _ z => z) (fun _ z => z), fI_si (fI_tr fI_rf cb2M (by decide) (by decide)) (by decide), by rw [i2, hr2.s.p]; exact hr2.m.p.symm⟩
  · have hb2 := fBad_tr hbad (gI_tr gI_rf cb1' (by decide) (by decide)) (fI_tr fI_rf cb2 (by decide) (by decide))
    obtain ⟨S', M', z1, z2, z3⟩ := hb2
    rw [z1, bw_some, if_neg (by decide), bw_some, if_neg (by decide)]
    exact Or.inr ⟨S', M', rfl, z2, z3⟩
theorem cond_step {g f : Nat} {S : CS} {t : Nat} {M : MS} {p T C : Nat} {x : LV} {r : List LV} (ho : bbO bb n) (h12 : S0.1 12 = nI nd) (hnd : nd < 8) (hp0 : p0 ≤ p) (IH : ∀ (f : Nat) (S : CS) (t : Nat) (M : MS) (p' T C : Nat) (x : LV) (r : List LV), p < p' → hG bb n S0 M0 c0 f S t M p' T C x r → pQ (L_X5_readNeeds_7 Knd) S0 M0 (L_X5_readNeeds_7 Knd f S (nI t)) (L_X12_readCond_19 g M) (cE bb n S0 M0 c0 p0)) (h : hG bb n S0 M0 c0 f S t M p T C x r) : pQ (L_X5_readNeeds_7 Knd) S0 M0 (L_X5_readNeeds_7 Knd f S (nI t)) (L_X12_readCond_19 (g + 1) M) (cE bb n S0 M0 c0 p0) := by
  obtain ⟨cl, hr, hrest⟩ := id h
  rw [e_rc (m_here ho hr.m hr.hi)]
  by_cases c : sg bb n p = 33 ∨ sg bb n p = 40
  · rw [if_pos c]
    rcases c with c | c
    · exact cond_open (o := 33) ho IH c (Or.inl rfl) h
    · exact cond_open (o := 40) ho IH c (Or.inr rfl) h
  · rw [if_neg c]
    exact cond_cmp ho h12 hnd hp0 IH (fun z => c (Or.inl z)) (fun z => c (Or.inr z)) h
theorem cond_all (ho : bbO bb n) (h12 : S0.1 12 = nI nd) (hnd : nd < 8) : ∀ (k g f : Nat) (S : CS) (t : Nat) (M : MS) (p T C : Nat) (x : LV) (r : List LV), n - p ≤ k → k < g → p0 ≤ p → hG bb n S0 M0 c0 f S t M p T C x r → pQ (L_X5_readNeeds_7 Knd) S0 M0 (L_X5_readNeeds_7 Knd f S (nI t)) (L_X12_readCond_19 g M) (cE bb n S0 M0 c0 p0) := by
  intro k
  induction k with
  | zero =>
    intro g f S t M p T C x r hk hg hp h
    obtain ⟨g, rfl⟩ : ∃ j, g = j + 1 := ⟨g - 1, by omega⟩
    refine cond_step ho h12 hnd hp (fun f S t M p' T C x r hpp h' => ?_) h
    obtain ⟨cl, hr, _⟩ := h'
    have := hr.hi
    omega
  | succ k ih =>
    intro g f S t M p T C x r hk hg hp h
    obtain ⟨g, rfl⟩ : ∃ j, g = j + 1 := ⟨g - 1, by omega⟩
    exact cond_step ho h12 hnd hp (fun f S t M p' T C x r hpp h' => ih g f S t M p' T C x r (by omega) (by omega) (by omega) h') h
end
