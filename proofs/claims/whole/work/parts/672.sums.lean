/-! sums of things: the class's waiting operators against the reference's descent -/
def fR (bb : Nat → Nat) (n : Nat) (Sb : CS) (Mb : MS) (f : Nat) (S : CS) (t : Nat) (M : MS) (p : Nat) (cl : List Int32) (u : List Nat) (w : List Nat) (T : Nat) (nst : Nat) : Prop := (rdS bb n p S) ∧ (rdM bb n p M) ∧ (p ≤ n) ∧ (t ≤ p) ∧ (n + 2 ≤ f + p) ∧ (gI [2, 3, 5, 10, 11, 13, 14, 15] [27, 28] Sb S) ∧ (fI [6, 7, 8, 11, 12] [9] Mb M) ∧ (S.1 10 = nI cl.length) ∧ (hC (S.2.1 27) cl) ∧ (S.1 11 = nI (u ++ w).length) ∧ (stkW (S.2.1 28) (u ++ w)) ∧ (∀ o, o ∈ u ++ w → o < 256) ∧ (S.1 14 = nI nst) ∧ (S.1 13 = nI T) ∧ (M.1 12 = nI T) ∧ (T ≤ 60) ∧ (M.1 11 = nI (cl ++ ng u).length) ∧ (hM (M.2 9) (cl ++ ng u)) ∧ (S.1 5 = M.1 7)
theorem fR.s {bb : Nat → Nat} {n : Nat} {Sb : CS} {Mb : MS} {f : Nat} {S : CS} {t : Nat} {M : MS} {p : Nat} {cl : List Int32} {u : List Nat} {w : List Nat} {T : Nat} {nst : Nat} (h : fR bb n Sb Mb f S t M p cl u w T nst) : rdS bb n p S := h.1
theorem fR.m {bb : Nat → Nat} {n : Nat} {Sb : CS} {Mb : MS} {f : Nat} {S : CS} {t : Nat} {M : MS} {p : Nat} {cl : List Int32} {u : List Nat} {w : List Nat} {T : Nat} {nst : Nat} (h : fR bb n Sb Mb f S t M p cl u w T nst) : rdM bb n p M := h.2.1
theorem fR.hi {bb : Nat → Nat} {n : Nat} {Sb : CS} {Mb : MS} {f : Nat} {S : CS} {t : Nat} {M : MS} {p : Nat} {cl : List Int32} {u : List Nat} {w : List Nat} {T : Nat} {nst : Nat} (h : fR bb n Sb Mb f S t M p cl u w T nst) : p ≤ n := h.2.2.1
theorem fR.tp {bb : Nat → Nat} {n : Nat} {Sb : CS} {Mb : MS} {f : Nat} {S : CS} {t : Nat} {M : MS} {p : Nat} {cl : List Int32} {u : List Nat} {w : List Nat} {T : Nat} {nst : Nat} (h : fR bb n Sb Mb f S t M p cl u w T nst) : t ≤ p := h.2.2.2.1
theorem fR.fu {bb : Nat → Nat} {n : Nat} {Sb : CS} {Mb : MS} {f : Nat} {S : CS} {t : Nat} {M : MS} {p : Nat} {cl : List Int32} {u : List Nat} {w : List Nat} {T : Nat} {nst : Nat} (h : fR bb n Sb Mb f S t M p cl u w T nst) : n + 2 ≤ f + p := h.2.2.2.2.1
theorem fR.gs {bb : Nat → Nat} {n : Nat} {Sb : CS} {Mb : MS} {f : Nat} {S : CS} {t : Nat} {M : MS} {p : Nat} {cl : List Int32} {u : List Nat} {w : List Nat} {T : Nat} {nst : Nat} (h : fR bb n Sb Mb f S t M p cl u w T nst) : gI [2, 3, 5, 10, 11, 13, 14, 15] [27, 28] Sb S := h.2.2.2.2.2.1
theorem fR.fm {bb : Nat → Nat} {n : Nat} {Sb : CS} {Mb : MS} {f : Nat} {S : CS} {t : Nat} {M : MS} {p : Nat} {cl : List Int32} {u : List Nat} {w : List Nat} {T : Nat} {nst : Nat} (h : fR bb n Sb Mb f S t M p cl u w T nst) : fI [6, 7, 8, 11, 12] [9] Mb M := h.2.2.2.2.2.2.1
theorem fR.c0 {bb : Nat → Nat} {n : Nat} {Sb : CS} {Mb : MS} {f : Nat} {S : CS} {t : Nat} {M : MS} {p : Nat} {cl : List Int32} {u : List Nat} {w : List Nat} {T : Nat} {nst : Nat} (h : fR bb n Sb Mb f S t M p cl u w T nst) : S.1 10 = nI cl.length := h.2.2.2.2.2.2.2.1
theorem fR.ca {bb : Nat → Nat} {n : Nat} {Sb : CS} {Mb : MS} {f : Nat} {S : CS} {t : Nat} {M : MS} {p : Nat} {cl : List Int32} {u : List Nat} {w : List Nat} {T : Nat} {nst : Nat} (h : fR bb n Sb Mb f S t M p cl u w T nst) : hC (S.2.1 27) cl := h.2.2.2.2.2.2.2.2.1
theorem fR.w0 {bb : Nat → Nat} {n : Nat} {Sb : CS} {Mb : MS} {f : Nat} {S : CS} {t : Nat} {M : MS} {p : Nat} {cl : List Int32} {u : List Nat} {w : List Nat} {T : Nat} {nst : Nat} (h : fR bb n Sb Mb f S t M p cl u w T nst) : S.1 11 = nI (u ++ w).length := h.2.2.2.2.2.2.2.2.2.1
theorem fR.wa {bb : Nat → Nat} {n : Nat} {Sb : CS} {Mb : MS} {f : Nat} {S : CS} {t : Nat} {M : MS} {p : Nat} {cl : List Int32} {u : List Nat} {w : List Nat} {T : Nat} {nst : Nat} (h : fR bb n Sb Mb f S t M p cl u w T nst) : stkW (S.2.1 28) (u ++ w) := h.2.2.2.2.2.2.2.2.2.2.1
theorem fR.wb {bb : Nat → Nat} {n : Nat} {Sb : CS} {Mb : MS} {f : Nat} {S : CS} {t : Nat} {M : MS} {p : Nat} {cl : List Int32} {u : List Nat} {w : List Nat} {T : Nat} {nst : Nat} (h : fR bb n Sb Mb f S t M p cl u w T nst) : ∀ o, o ∈ u ++ w → o < 256 := h.2.2.2.2.2.2.2.2.2.2.2.1
theorem fR.ns {bb : Nat → Nat} {n : Nat} {Sb : CS} {Mb : MS} {f : Nat} {S : CS} {t : Nat} {M : MS} {p : Nat} {cl : List Int32} {u : List Nat} {w : List Nat} {T : Nat} {nst : Nat} (h : fR bb n Sb Mb f S t M p cl u w T nst) : S.1 14 = nI nst := h.2.2.2.2.2.2.2.2.2.2.2.2.1
theorem fR.sT {bb : Nat → Nat} {n : Nat} {Sb : CS} {Mb : MS} {f : Nat} {S : CS} {t : Nat} {M : MS} {p : Nat} {cl : List Int32} {u : List Nat} {w : List Nat} {T : Nat} {nst : Nat} (h : fR bb n Sb Mb f S t M p cl u w T nst) : S.1 13 = nI T := h.2.2.2.2.2.2.2.2.2.2.2.2.2.1
theorem fR.mT {bb : Nat → Nat} {n : Nat} {Sb : CS} {Mb : MS} {f : Nat} {S : CS} {t : Nat} {M : MS} {p : Nat} {cl : List Int32} {u : List Nat} {w : List Nat} {T : Nat} {nst : Nat} (h : fR bb n Sb Mb f S t M p cl u w T nst) : M.1 12 = nI T := h.2.2.2.2.2.2.2.2.2.2.2.2.2.2.1
theorem fR.T6 {bb : Nat → Nat} {n : Nat} {Sb : CS} {Mb : MS} {f : Nat} {S : CS} {t : Nat} {M : MS} {p : Nat} {cl : List Int32} {u : List Nat} {w : List Nat} {T : Nat} {nst : Nat} (h : fR bb n Sb Mb f S t M p cl u w T nst) : T ≤ 60 := h.2.2.2.2.2.2.2.2.2.2.2.2.2.2.2.1
theorem fR.mc {bb : Nat → Nat} {n : Nat} {Sb : CS} {Mb : MS} {f : Nat} {S : CS} {t : Nat} {M : MS} {p : Nat} {cl : List Int32} {u : List Nat} {w : List Nat} {T : Nat} {nst : Nat} (h : fR bb n Sb Mb f S t M p cl u w T nst) : M.1 11 = nI (cl ++ ng u).length := h.2.2.2.2.2.2.2.2.2.2.2.2.2.2.2.2.1
theorem fR.ma {bb : Nat → Nat} {n : Nat} {Sb : CS} {Mb : MS} {f : Nat} {S : CS} {t : Nat} {M : MS} {p : Nat} {cl : List Int32} {u : List Nat} {w : List Nat} {T : Nat} {nst : Nat} (h : fR bb n Sb Mb f S t M p cl u w T nst) : hM (M.2 9) (cl ++ ng u) := h.2.2.2.2.2.2.2.2.2.2.2.2.2.2.2.2.2.1
theorem fR.fa {bb : Nat → Nat} {n : Nat} {Sb : CS} {Mb : MS} {f : Nat} {S : CS} {t : Nat} {M : MS} {p : Nat} {cl : List Int32} {u : List Nat} {w : List Nat} {T : Nat} {nst : Nat} (h : fR bb n Sb Mb f S t M p cl u w T nst) : S.1 5 = M.1 7 := h.2.2.2.2.2.2.2.2.2.2.2.2.2.2.2.2.2.2
def fC (S S' : CS) : Prop := gI [2, 3, 5, 10, 11, 12, 13, 14, 15, 16] [27, 28, 29] S S'
def fN (M M' : MS) : Prop := fI [6, 7, 8, 11, 12, 16] [9, 10, 13, 14, 15] M M'
def fBad (Sb : CS) (Mb : MS) (oc : Option FN) (om : Option (Bool × MS)) : Prop := ∃ S' M', om = some (false, M') ∧ oc = some (none, S') ∧ fC Sb S' ∧ fN Mb M' ∧ S'.1 5 = M'.1 7
def CLk (CL : Nat → CS → Int32 → Option FN) (oc : Option FN) (f t : Nat) (ro : Option (Bool × CS)) : Prop := (∀ S', ro = some (true, S') → oc = CL f S' (nI (t + 1))) ∧ (∀ S', ro = some (false, S') → ∃ S'', oc = some (none, S'') ∧ S''.1 5 = S'.1 2 ∧ fC S' S'')
def okS (S : CS) : Prop := ∃ k ws, S.1 10 = nI k ∧ k + ws.length ≤ 599 ∧ S.1 11 = nI ws.length ∧ stkW (S.2.1 28) ws ∧ (∀ o, o ∈ ws → o < 256)
def mach (bb : Nat → Nat) (n : Nat) (Sb : CS) (CL : Nat → CS → Int32 → Option FN) : Prop := (∀ (f : Nat) (S : CS) (t p : Nat), rdS bb n p S → p ≤ n → t ≤ p → S.1 15 = 1 → gI [2, 3, 5, 10, 11, 13, 14, 15] [27, 28] Sb S → okS S → CLk CL (CL (f + 1) S (nI t)) f t (f_X5_readThing S)) ∧ (∀ (f : Nat) (S : CS) (t p : Nat) (S' : CS), rdS bb n p S → p < n → t ≤ p → S.1 15 = 2 → f_X5_readArithmetic S (sg bb n p) = some (true, S') → CL (f + 1) S (nI t) = CL f S' (nI (t + 1)))
theorem mach.th {bb : Nat → Nat} {n : Nat} {Sb : CS} {CL : Nat → CS → Int32 → Option FN} (h : mach bb n Sb CL) : ∀ (f : Nat) (S : CS) (t p : Nat), rdS bb n p S → p ≤ n → t ≤ p → S.1 15 = 1 → gI [2, 3, 5, 10, 11, 13, 14, 15] [27, 28] Sb S → okS S → CLk CL (CL (f + 1) S (nI t)) f t (f_X5_readThing S) := h.1
theorem mach.ar {bb : Nat → Nat} {n : Nat} {Sb : CS} {CL : Nat → CS → Int32 → Option FN} (h : mach bb n Sb CL) : ∀ (f : Nat) (S : CS) (t p : Nat) (S' : CS), rdS bb n p S → p < n → t ≤ p → S.1 15 = 2 → f_X5_readArithmetic S (sg bb n p) = some (true, S') → CL (f + 1) S (nI t) = CL f S' (nI (t + 1)) := h.2
def pQ (CL : Nat → CS → Int32 → Option FN) (Sb : CS) (Mb : MS) (oc : Option FN) (om : Option (Bool × MS)) (G : Nat → CS → Nat → MS → Prop) : Prop := (∃ M' f' S' t', om = some (true, M') ∧ oc = CL f' S' (nI t') ∧ G f' S' t' M') ∨ fBad Sb Mb oc om
def opsL : List Nat := [33, 38, 42, 43, 45, 47, 60, 61, 62, 124]
theorem op_m {o : Nat} (h : o ∈ opsL) : 20000000 + nI o = mcode (-(nI o)) := by
  unfold opsL at h
  simp only [List.mem_cons, List.not_mem_nil, or_false] at h
  rcases h with rfl | rfl | rfl | rfl | rfl | rfl | rfl | rfl | rfl | rfl
  all_goals decide
theorem ty_ar {o : Nat} (h : o ∈ [42, 43, 45, 47]) {a b : Bool} {st : List Bool} : ty1 (a :: b :: st) (-(nI o)) = some (false :: st) := by
  simp only [List.mem_cons, List.not_mem_nil, or_false] at h
  rcases h with rfl | rfl | rfl | rfl
  all_goals rfl
theorem ty_cm {o : Nat} (h : o ∈ [60, 61, 62]) {a b : Bool} {st : List Bool} : ty1 (a :: b :: st) (-(nI o)) = some (true :: st) := by
  simp only [List.mem_cons, List.not_mem_nil, or_false] at h
  rcases h with rfl | rfl | rfl
  all_goals rfl
theorem ty_lg {o : Nat} (h : o ∈ [38, 124]) {st : List Bool} : ty1 (true :: true :: st) (-(nI o)) = some (true :: st) := by
  simp only [List.mem_cons, List.not_mem_nil, or_false] at h
  rcases h with rfl | rfl
  all_goals rfl
theorem ty_no {st : List Bool} : ty1 (true :: st) (-(nI 33)) = some (true :: st) := rfl
theorem app0 {cl : List Int32} : cl ++ ng [] = cl := List.append_nil _
/-- what waits is released, an operator waits -/
theorem c_op {S : CS} {cl : List Int32} {u w : List Nat} {nst p o s : Nat} {x : Int32} (hs : s < 8) (h0 : 0 < s) (hw : topL s w) (e10 : S.1 10 = nI cl.length) (hc : hC (S.2.1 27) cl) (e11 : S.1 11 = nI (u ++ w).length) (hst : stkW (S.2.1 28) (u ++ w)) (hb : ∀ o, o ∈ u ++ w → o < 256) (hu : ∀ o, o ∈ u → s ≤ strn o) (e14 : S.1 14 = nI nst) (h33 : c33 u ≤ nst) (hn : nst < 1000) (hcl : cl.length + u.length ≤ 500) (hl : (u ++ w).length ≤ 500) (hp : S.1 2 = nI p) : ∃ S', bp (f_X5_release S (nI s)) (fun S2 => bw (f_X5_await S2 (nI o) x) (fun x3 S4 => some (x3, S4))) = some (true, S') ∧ gI [2, 10, 11, 14, 15] [27, 28] S S' ∧ S'.1 10 = nI (cl ++ ng u).length ∧ hC (S'.2.1 27) (cl ++ ng u) ∧ S'.1 11 = nI (o :: w).length ∧ stkW (S'.2.1 28) (o :: w) ∧ S'.1 14 = nI (nst - c33 u) ∧ S'.1 2 = nI (p + 1) ∧ S'.1 15 = x := by
  obtain ⟨S1, q1, q2, q3, q4, q5, q6⟩ := c_rel hs h0 hw u FU S cl nst (FU_gt (by have h1 : (u ++ w).length = u.length + w.length := List.length_append; omega)) e10 hc e11 hst hb hu e14 h33 (by omega) (by omega) (by omega)
  have hwl : w.length ≤ 500 := by rw [List.length_append] at hl; omega
  unfold f_X5_release
  rw [q1, bp_some, c_await q5 (by omega) (by rw [q2.1 2 (by decide)]; exact hp), bw_some]
  refine ⟨_, rfl, gI_ci (gI_ci (gI_ci (gI_ca (gI_tr gI_rf q2 (by decide) (by decide)) (by decide)) (by decide)) (by decide)) (by decide), q3, q4, rfl, ?_, q6, rfl, rfl⟩
  refine stkW_push ?_
  rw [q2.2.1 28 (by decide)]
  exact stkW_app hst
theorem c_arith {S : CS} {o : Nat} (h : o ∈ [42, 43, 45, 47]) : f_X5_readArithmetic S (nI o) = bp (f_X5_release S (nI (strn o))) (fun S2 => bw (f_X5_await S2 (nI o) 1) (fun x3 S4 => some (x3, S4))) := by
  simp only [List.mem_cons, List.not_mem_nil, or_false] at h
  unfold f_X5_readArithmetic
  simp only [jn0]
  rcases h with rfl | rfl | rfl | rfl
  · rw [c_strn (by decide), bp_some, if_neg (show ¬ nI 42 = 43 by decide), if_neg (show ¬ nI 42 = 45 by decide), if_pos (show nI 42 = 42 from rfl)]
  · rw [c_strn (by decide), bp_some, if_pos (show nI 43 = 43 from rfl)]
  · rw [c_strn (by decide), bp_some, if_neg (show ¬ nI 45 = 43 by decide), if_pos (show nI 45 = 45 from rfl)]
  · rw [c_strn (by decide), bp_some, if_neg (show ¬ nI 47 = 43 by decide), if_neg (show ¬ nI 47 = 45 by decide), if_neg (show ¬ nI 47 = 42 by decide), if_pos (show nI 47 = 47 from rfl)]
section
variable {bb : Nat → Nat} {n : Nat} {Sb : CS} {Mb : MS} {CL : Nat → CS → Int32 → Option FN}
theorem fR_op {f : Nat} {S S' : CS} {t : Nat} {M : MS} {p : Nat} {cl : List Int32} {u w : List Nat} {T nst o : Nat} (h : fR bb n Sb Mb (f + 1) S t M p cl u w T nst) (hp : p < n) (ho : o < 256) (q2 : gI [2, 10, 11, 14, 15] [27, 28] S S') (q3 : S'.1 10 = nI (cl ++ ng u).length) (q4 : hC (S'.2.1 27) (cl ++ ng u)) (q5 : S'.1 11 = nI (o :: w).length) (q6 : stkW (S'.2.1 28) (o :: w)) (q7 : S'.1 14 = nI (nst - c33 u)) (q8 : S'.1 2 = nI (p + 1)) : fR bb n Sb Mb f S' (t + 1) (si M 6 (M.1 6 + 1)) (p + 1) (cl ++ ng u) [] (o :: w) T (nst - c33 u) := by
  have hf := h.fu
  have ht := h.tp
  refine ⟨rdS_gI h.s q2 (by decide) (by decide) q8, ⟨h.m.l, by show M.1 6 + 1 = _; rw [h.m.p, nI_1], h.m.b⟩, hp, by omega, by omega, gI_tr h.gs q2 (by decide) (by decide), fI_si h.fm (by decide), q3, q4, q5, q6, ?_, q7, ?_, h.mT, h.T6, ?_, ?_, ?_⟩
  · intro x hx
    rcases List.mem_cons.mp hx with rfl | hx
    · exact ho
    · exact h.wb x (List.mem_append_right _ hx)
  · rw [q2.1 13 (by decide)]; exact h.sT
  · rw [app0]; exact h.mc
  · rw [app0]; exact h.ma
  · rw [q2.1 5 (by decide)]; exact h.fa
theorem fR_does {f : Nat} {S : CS} {t : Nat} {M : MS} {p : Nat} {cl : List Int32} {u w : List Nat} {T nst o : Nat} {x : Int32} (h : fR bb n Sb Mb f S t M p cl u (o :: w) T nst) (hx : x = mcode (-(nI o))) (hl : (cl ++ ng u).length < 310) : ∃ M', f_X12_does M x = some M' ∧ fR bb n Sb Mb f S t M' p cl (u ++ [o]) w T nst ∧ fI [11] [9] M M' := by
  have eu : (u ++ [o]) ++ w = u ++ (o :: w) := by rw [List.append_assoc]; rfl
  have ec : cl ++ ng (u ++ [o]) = (cl ++ ng u) ++ [-(nI o)] := by rw [ng_app, List.append_assoc]; rfl
  refine ⟨_, m_does h.mc hl, ⟨h.s, ⟨h.m.l, h.m.p, h.m.b⟩, h.hi, h.tp, h.fu, h.gs, fI_si (fI_sa h.fm (by decide)) (by decide), h.c0, h.ca, by rw [eu]; exact h.w0, by rw [eu]; exact h.wa, by rw [eu]; exact h.wb, h.ns, h.sT, h.mT, h.T6, ?_, ?_, h.fa⟩, fI_si (fI_sa fI_rf (by decide)) (by decide)⟩
  · have el : ((cl ++ ng u) ++ [-(nI o)]).length = (cl ++ ng u).length + 1 := List.length_append
    rw [ec, el]; rfl
  · rw [ec]; exact hM_push h.ma hx
theorem s_thing {oc : Option FN} {f : Nat} {S : CS} {t : Nat} {M : MS} {p : Nat} {cl : List Int32} {w : List Nat} {T nst : Nat} (ho : bbO bb n) (h : fR bb n Sb Mb (f + 1) S t M p cl [] w T nst) (hk : CLk CL oc f t (f_X5_readThing S)) (hcl : cl.length < 310) : (∃ M' S' c p', f_X12_readThing M = some (true, M') ∧ oc = CL f S' (nI (t + 1)) ∧ fR bb n Sb Mb f S' (t + 1) M' p' (cl ++ [c]) [] w (T + 1) nst ∧ S'.1 15 = 2 ∧ thC c ∧ T < 60 ∧ p < p') ∨ fBad Sb Mb oc (f_X12_readThing M) := by
  have hmc := h.mc
  have hma := h.ma
  rw [app0] at hmc hma
  have hf := h.fu
  have ht := h.tp
  rcases f_thing ho h.s h.m h.hi h.c0 h.ca hmc hma hcl h.sT h.mT h.T6 with ⟨c, p', S', M', a1, a2, b1, b2, b3, b4, b5, b6, b7, b8, b9, b10, b11, b12, b13, b14, b15, b16, b17⟩ | ⟨S', M', a1, a2, q, b1, b2, b3, b4⟩
  · have hl : (cl ++ [c]).length = cl.length + 1 := List.length_append
    refine Or.inl ⟨M', S', c, p', a2, hk.1 S' a1, ⟨b4, b5, b3, by omega, by omega, gI_tr h.gs b7 (by decide) (by decide), fI_tr h.fm b8 (by decide) (by decide), by rw [hl]; exact b9, b10, ?_, ?_, h.wb, ?_, b13, b14, by omega, by rw [app0, hl]; exact b11, by rw [app0]; exact b12, by rw [b16, b17]; exact h.fa⟩, b15, b6, b1, b2⟩
    · rw [b7.1 11 (by decide)]; exact h.w0
    · rw [b7.2.1 28 (by decide)]; exact h.wa
    · rw [b7.1 14 (by decide)]; exact h.ns
  · obtain ⟨S'', c1, c2, c3⟩ := hk.2 S' a1
    exact Or.inr ⟨S'', M', a2, c1, gI_tr (gI_tr (gI_tr gI_rf h.gs (by decide) (by decide)) b3 (by decide) (by decide)) c3 (fun _ z => z) (fun _ z => z), fI_tr (fI_tr fI_rf h.fm (by decide) (by decide)) b4 (by decide) (by decide), by rw [c2, b1, b2]⟩
def aGx (bb : Nat → Nat) (n : Nat) (Sb : CS) (Mb : MS) (c0 : List Int32) (st : List Bool) (w : List Nat) (nst a Kq lv : Nat) (f : Nat) (S : CS) (t : Nat) (M : MS) (p T : Nat) : Prop := ∃ cl u, fR bb n Sb Mb f S t M p cl u w T nst ∧ S.1 15 = 2 ∧ (∀ o, o ∈ u → lv ≤ strn o) ∧ u.length + lv ≤ 7 ∧ tyD c0 (cl ++ ng u) (false :: st) ∧ (cl ++ ng u).length + 1 + a ≤ 2 * T + Kq ∧ st.length + 1 ≤ T
def eGx (bb : Nat → Nat) (n : Nat) (Sb : CS) (Mb : MS) (c0 : List Int32) (st : List Bool) (w : List Nat) (nst a Kq : Nat) (f : Nat) (S : CS) (t : Nat) (M : MS) (p T : Nat) : Prop := ∃ cl, fR bb n Sb Mb f S t M p cl [] w T nst ∧ tyD c0 cl st ∧ cl.length + a ≤ 2 * T + Kq ∧ st.length ≤ T
/-- an operator of a sum: the class releases what waits and lets it wait, both are at the next thing -/
theorem s_op {c0 : List Int32} {st : List Bool} {w : List Nat} {nst a Kq lv f : Nat} {S : CS} {t : Nat} {M : MS} {p T o : Nat} (hm : mach bb n Sb CL) (hlv : 4 < lv) (hw : topL lv w) (hwl : w.length ≤ 40) (hKq : Kq ≤ 186) (hns : nst ≤ 50) (hos : strn o = lv) (hoo : o ∈ [42, 43, 45, 47]) (hsg : sg bb n p = nI o) (h : aGx bb n Sb Mb c0 st w nst a Kq lv f S t M p T) : ∃ f' S', f = f' + 1 + 1 ∧ p < n ∧ CL f S (nI t) = CL (f' + 1) S' (nI (t + 1)) ∧ S'.1 15 = 1 ∧ eGx bb n Sb Mb c0 (false :: st) (o :: w) nst (a + 1) Kq (f' + 1) S' (t + 1) (si M 6 (M.1 6 + 1)) (p + 1) T := by
  obtain ⟨cl, u, hr, h15, hu, hul, hty, hcn, hst⟩ := h
  have ho : o < 256 := by
    simp only [List.mem_cons, List.not_mem_nil, or_false] at hoo
    omega
  have hp := sg_lt hsg ho
  have hf := hr.fu
  have hT := hr.T6
  obtain ⟨f', rfl⟩ : ∃ k, f = k + 1 + 1 := ⟨f - 2, by omega⟩
  have h33 : c33 u = 0 := c33_0 (fun x hx => by have := hu x hx; omega)
  have l6 := strn_6 (o := o)
  have hlc : (cl ++ ng u).length = cl.length + u.length := by rw [List.length_append, ng_len]
  have hlw : (u ++ w).length = u.length + w.length := List.length_append
  obtain ⟨S', q1, q2, q3, q4, q5, q6, q7, q8, q9⟩ := c_op (o := o) (x := 1) (s := lv) (by omega) (by omega) hw hr.c0 hr.ca hr.w0 hr.wa hr.wb hu hr.ns (by omega) (by omega) (by omega) (by omega) hr.s.p
  have ha : f_X5_readArithmetic S (sg bb n p) = some (true, S') := by rw [hsg, c_arith hoo, hos]; exact q1
  have hR := fR_op hr hp ho q2 q3 q4 q5 q6 q7 q8
  rw [h33] at hR
  exact ⟨f', S', rfl, hp, hm.ar (f' + 1) S t p S' hr.s hp hr.tp h15 ha, q9, cl ++ ng u, hR, hty, by omega, by rw [List.length_cons]; omega⟩

theorem e_prod {g : Nat} {M : MS} {x : Int32} (hh : f_X12_here M = some x) : L_X12_readProduct_9 (fun S18 => some (true, S18)) (g + 1) M = if x = 42 ∨ x = 47 then bw (f_X12_readThing (si M 6 (M.1 6 + 1))) (fun x11 S12 => if x11 = true then bp (f_X12_does S12 (20000000 + x)) (fun S13 => L_X12_readProduct_9 (fun S18 => some (true, S18)) g S13) else some (false, S12)) else some (true, M) := by
  unfold L_X12_readProduct_9
  rw [lo1_succ]
  simp only [jn0, lt_eq]
  rw [hh, bp_some, bp_some, bp_some]
  by_cases c1 : x = 42
  · rw [if_pos c1, if_pos (Or.inl c1)]
  · rw [if_neg c1]
    by_cases c2 : x = 47
    · rw [if_pos c2, if_pos (Or.inr c2)]
    · rw [if_neg c2, if_neg (fun z => z.elim c1 c2)]
theorem s_prodL {c0 : List Int32} {st : List Bool} {w : List Nat} {nst a Kq : Nat} (ho : bbO bb n) (hm : mach bb n Sb CL) (hw : topL 6 w) (hwl : w.length ≤ 40) (hKq : Kq ≤ 186) (hns : nst ≤ 50) : ∀ (k g f : Nat) (S : CS) (t : Nat) (M : MS) (p T : Nat), n - p ≤ k → k < g → aGx bb n Sb Mb c0 st w nst a Kq 6 f S t M p T → pQ CL Sb Mb (CL f S (nI t)) (L_X12_readProduct_9 (fun S18 => some (true, S18)) g M) (fun f' S' t' M' => ∃ p' T', aGx bb n Sb Mb c0 st w nst a Kq 6 f' S' t' M' p' T' ∧ T ≤ T' ∧ p ≤ p' ∧ ¬ sg bb n p' = 42 ∧ ¬ sg bb n p' = 47) := by
  intro k
  induction k with
  | zero =>
    intro g f S t M p T hk hg h
    obtain ⟨g, rfl⟩ : ∃ j, g = j + 1 := ⟨g - 1, by omega⟩
    obtain ⟨cl, u, hr, hrest⟩ := id h
    have hs : sg bb n p = -1 := if_neg (by omega)
    rw [e_prod (m_here ho hr.m hr.hi), hs, if_neg (by decide)]
    exact Or.inl ⟨M, f, S, t, rfl, rfl, p, T, h, Nat.le_refl _, Nat.le_refl _, by rw [hs]; decide, by rw [hs]; decide⟩
  | succ k ih =>
    intro g f S t M p T hk hg h
    obtain ⟨g, rfl⟩ : ∃ j, g = j + 1 := ⟨g - 1, by omega⟩
    obtain ⟨cl, u, hr, hrest⟩ := id h
    rw [e_prod (m_here ho hr.m hr.hi)]
    by_cases c : sg bb n p = 42 ∨ sg bb n p = 47
    · rw [if_pos c]
      have hx : ∃ o, sg bb n p = nI o ∧ o ∈ [42, 43, 45, 47] ∧ strn o = 6 ∧ o ∈ opsL := by
        rcases c with c | c
        · exact ⟨42, c, by decide, rfl, by decide⟩
        · exact ⟨47, c, by decide, rfl, by decide⟩
      obtain ⟨o, hsg, hoo, hos, hol⟩ := hx
      obtain ⟨f', S1, rfl, hp, e1, e15, cl1, hr1, ht1, hc1, hl1⟩ := s_op hm (by decide) hw hwl hKq hns hos hoo hsg h
      have hT := hr1.T6
      rw [e1]
      rcases s_thing ho hr1 (hm.th f' S1 (t + 1) (p + 1) hr1.s hr1.hi hr1.tp e15 hr1.gs ⟨cl1.length, o :: w, hr1.c0, by rw [List.length_cons]; omega, hr1.w0, hr1.wa, hr1.wb⟩) (by omega) with ⟨M2, S2, c2, p2, m1, m2, m3, m4, m5, m6, m7⟩ | hbad
      · have hl2 : (cl1 ++ [c2]).length = cl1.length + 1 := List.length_append
        rw [m1, bw_some, if_pos rfl, m2, hsg]
        obtain ⟨M3, d1, d2, d3⟩ := fR_does (x := 20000000 + nI o) m3 (op_m hol) (by rw [app0, hl2]; omega)
        rw [d1, bp_some]
        have hty2 : tyD c0 (cl1 ++ [c2]) (false :: false :: st) := tyD_1 ht1 (thC_ty m5 (by omega))
        have ea : (cl1 ++ [c2]) ++ ng ([] ++ [o]) = (cl1 ++ [c2]) ++ [-(nI o)] := rfl
        have hst : (false :: st).length = st.length + 1 := List.length_cons
        have := ih g f' S2 (t + 1 + 1) M3 p2 (T + 1) (by omega) (by omega) ⟨cl1 ++ [c2], [] ++ [o], d2, m4, ?_, Nat.le_refl 7, ?_, ?_, by omega⟩
        · rcases this with ⟨M', f1, S', t', z1, z2, p', T', z3, z4, z5, z6⟩ | z
          · exact Or.inl ⟨M', f1, S', t', z1, z2, p', T', z3, by omega, by omega, z6⟩
          · exact Or.inr z
        · intro x hx
          rw [List.mem_singleton.mp hx, hos]
          exact Nat.le_refl _
        · rw [ea]; exact tyD_1 hty2 (ty_ar hoo)
        · rw [ea, List.length_append, hl2]
          show cl1.length + 1 + 1 + 1 + a ≤ _
          omega
      · obtain ⟨S', M', z1, z2, z3⟩ := hbad
        rw [z1, bw_some, if_neg (by decide)]
        exact Or.inr ⟨S', M', rfl, z2, z3⟩
    · rw [if_neg c]
      exact Or.inl ⟨M, f, S, t, rfl, rfl, p, T, h, Nat.le_refl _, Nat.le_refl _, fun z => c (Or.inl z), fun z => c (Or.inr z)⟩
theorem s_prod {c0 : List Int32} {st : List Bool} {w : List Nat} {nst a Kq : Nat} {oc : Option FN} {f : Nat} {S : CS} {t : Nat} {M : MS} {p T : Nat} (ho : bbO bb n) (hm : mach bb n Sb CL) (hw : topL 6 w) (hwl : w.length ≤ 40) (hKq : Kq ≤ 186) (hns : nst ≤ 50) (h : eGx bb n Sb Mb c0 st w nst a Kq (f + 1) S t M p T) (hk : CLk CL oc f t (f_X5_readThing S)) : pQ CL Sb Mb oc (f_X12_readProduct M) (fun f' S' t' M' => ∃ p' T', aGx bb n Sb Mb c0 st w nst a Kq 6 f' S' t' M' p' T' ∧ T + 1 ≤ T' ∧ p < p' ∧ ¬ sg bb n p' = 42 ∧ ¬ sg bb n p' = 47) := by
  obtain ⟨cl, hr, ht, hc, hl⟩ := h
  have hT := hr.T6
  have hn := ho.n
  unfold f_X12_readProduct
  rcases s_thing ho hr hk (by omega) with ⟨M2, S2, c2, p2, m1, m2, m3, m4, m5, m6, m7⟩ | hbad
  · have hl2 : (cl ++ [c2]).length = cl.length + 1 := List.length_append
    rw [m1, bw_some, if_pos rfl, m2]
    have hty2 : tyD c0 (cl ++ [c2]) (false :: st) := tyD_1 ht (thC_ty m5 (by omega))
    rcases s_prodL (Sb := Sb) (Mb := Mb) (c0 := c0) (st := st) (a := a) (Kq := Kq) ho hm hw hwl hKq hns n FU f S2 (t + 1) M2 p2 (T + 1) (by omega) (FU_gt (by omega)) ⟨cl ++ [c2], [], m3, m4, fun x hx => absurd hx (List.not_mem_nil), by decide, by rw [app0]; exact hty2, by rw [app0, hl2]; omega, by omega⟩ with ⟨M', f1, S', t', z1, z2, p', T', z3, z4, z5, z6⟩ | z
    · exact Or.inl ⟨M', f1, S', t', z1, z2, p', T', z3, by omega, by omega, z6⟩
    · exact Or.inr z
  · obtain ⟨S', M', z1, z2, z3⟩ := hbad
    rw [z1, bw_some, if_neg (by decide)]
    exact Or.inr ⟨S', M', rfl, z2, z3⟩
theorem e_sum {g : Nat} {M : MS} {x : Int32} (hh : f_X12_here M = some x) : L_X12_readSum_9 (fun S18 => some (true, S18)) (g + 1) M = if x = 43 ∨ x = 45 then bw (f_X12_readProduct (si M 6 (M.1 6 + 1))) (fun x11 S12 => if x11 = true then bp (f_X12_does S12 (20000000 + x)) (fun S13 => L_X12_readSum_9 (fun S18 => some (true, S18)) g S13) else some (false, S12)) else some (true, M) := by
  unfold L_X12_readSum_9
  rw [lo1_succ]
  simp only [jn0, lt_eq]
  rw [hh, bp_some, bp_some, bp_some]
  by_cases c1 : x = 43
  · rw [if_pos c1, if_pos (Or.inl c1)]
  · rw [if_neg c1]
    by_cases c2 : x = 45
    · rw [if_pos c2, if_pos (Or.inr c2)]
    · rw [if_neg c2, if_neg (fun z => z.elim c1 c2)]
theorem top_56 {w : List Nat} (h : topL 5 w) : topL 6 w := by
  cases w with
  | nil => trivial
  | cons o r =>
    have h : strn o < 5 := h
    show strn o < 6
    omega
theorem s_sumL {c0 : List Int32} {st : List Bool} {w : List Nat} {nst a Kq : Nat} (ho : bbO bb n) (hm : mach bb n Sb CL) (hw : topL 5 w) (hwl : w.length ≤ 39) (hKq : Kq ≤ 186) (hns : nst ≤ 50) : ∀ (k g f : Nat) (S : CS) (t : Nat) (M : MS) (p T : Nat), n - p ≤ k → k < g → aGx bb n Sb Mb c0 st w nst a Kq 5 f S t M p T → ¬ sg bb n p = 42 → ¬ sg bb n p = 47 → pQ CL Sb Mb (CL f S (nI t)) (L_X12_readSum_9 (fun S18 => some (true, S18)) g M) (fun f' S' t' M' => ∃ p' T', aGx bb n Sb Mb c0 st w nst a Kq 5 f' S' t' M' p' T' ∧ T ≤ T' ∧ p ≤ p' ∧ ¬ sg bb n p' = 42 ∧ ¬ sg bb n p' = 47 ∧ ¬ sg bb n p' = 43 ∧ ¬ sg bb n p' = 45) := by
  intro k
  induction k with
  | zero =>
    intro g f S t M p T hk hg h n1 n2
    obtain ⟨g, rfl⟩ : ∃ j, g = j + 1 := ⟨g - 1, by omega⟩
    obtain ⟨cl, u, hr, hrest⟩ := id h
    have hs : sg bb n p = -1 := if_neg (by omega)
    rw [e_sum (m_here ho hr.m hr.hi), hs, if_neg (by decide)]
    exact Or.inl ⟨M, f, S, t, rfl, rfl, p, T, h, Nat.le_refl _, Nat.le_refl _, n1, n2, by rw [hs]; decide, by rw [hs]; decide⟩
  | succ k ih =>
    intro g f S t M p T hk hg h n1 n2
    obtain ⟨g, rfl⟩ : ∃ j, g = j + 1 := ⟨g - 1, by omega⟩
    obtain ⟨cl, u, hr, hrest⟩ := id h
    rw [e_sum (m_here ho hr.m hr.hi)]
    by_cases c : sg bb n p = 43 ∨ sg bb n p = 45
    · rw [if_pos c]
      have hx : ∃ o, sg bb n p = nI o ∧ o ∈ [42, 43, 45, 47] ∧ strn o = 5 ∧ o ∈ opsL := by
        rcases c with c | c
        · exact ⟨43, c, by decide, rfl, by decide⟩
        · exact ⟨45, c, by decide, rfl, by decide⟩
      obtain ⟨o, hsg, hoo, hos, hol⟩ := hx
      obtain ⟨f', S1, rfl, hp, e1, e15, hE⟩ := s_op hm (by decide) hw (by omega) hKq hns hos hoo hsg h
      obtain ⟨cl1, hr1, _, hcn1, _⟩ := id hE
      have hT1 := hr1.T6
      rw [e1]
      rcases s_prod ho hm (show topL 6 (o :: w) by show strn o < 6; omega) (by rw [List.length_cons]; omega) hKq hns hE (hm.th f' S1 (t + 1) (p + 1) hr1.s hr1.hi hr1.tp e15 hr1.gs ⟨cl1.length, o :: w, hr1.c0, by rw [List.length_cons]; omega, hr1.w0, hr1.wa, hr1.wb⟩) with ⟨M2, f2, S2, t2, m1, m2, p2, T2, ⟨cl2, u2, hr2, k15, ku, kul, kty, kcn, kst⟩, k1, k2, k3, k4⟩ | hbad
      · have hT := hr2.T6
        rw [m1, bw_some, if_pos rfl, m2, hsg]
        obtain ⟨M3, d1, d2, d3⟩ := fR_does (x := 20000000 + nI o) hr2 (op_m hol) (by omega)
        rw [d1, bp_some]
        have ec : cl2 ++ ng (u2 ++ [o]) = (cl2 ++ ng u2) ++ [-(nI o)] := by rw [ng_app, List.append_assoc]; rfl
        have el : ((cl2 ++ ng u2) ++ [-(nI o)]).length = (cl2 ++ ng u2).length + 1 := List.length_append
        have elb : (cl2 ++ ng u2).length = cl2.length + (ng u2).length := List.length_append
        have elu : (u2 ++ [o]).length = u2.length + 1 := List.length_append
        have hst : (false :: st).length = st.length + 1 := List.length_cons
        have := ih g f2 S2 t2 M3 p2 T2 (by omega) (by omega) ⟨cl2, u2 ++ [o], d2, k15, ?_, by omega, ?_, ?_, by omega⟩ k3 k4
        · rcases this with ⟨M', f1, S', t', z1, z2, p', T', z3, z4, z5, z6⟩ | z
          · exact Or.inl ⟨M', f1, S', t', z1, z2, p', T', z3, by omega, by omega, z6⟩
          · exact Or.inr z
        · intro x hx
          rcases List.mem_append.mp hx with hx | hx
          · have := ku x hx; omega
          · rw [List.mem_singleton.mp hx, hos]
            exact Nat.le_refl _
        · rw [ec]; exact tyD_1 kty (ty_ar hoo)
        · rw [ec, el]; omega
      · obtain ⟨S', M', z1, z2, z3⟩ := hbad
        rw [z1, bw_some, if_neg (by decide)]
        exact Or.inr ⟨S', M', rfl, z2, z3⟩
    · rw [if_neg c]
      exact Or.inl ⟨M, f, S, t, rfl, rfl, p, T, h, Nat.le_refl _, Nat.le_refl _, n1, n2, fun z => c (Or.inl z), fun z => c (Or.inr z)⟩
theorem s_sum {c0 : List Int32} {st : List Bool} {w : List Nat} {nst a Kq : Nat} {oc : Option FN} {f : Nat} {S : CS} {t : Nat} {M : MS} {p T : Nat} (ho : bbO bb n) (hm : mach bb n Sb CL) (hw : topL 5 w) (hwl : w.length ≤ 39) (hKq : Kq ≤ 186) (hns : nst ≤ 50) (h : eGx bb n Sb Mb c0 st w nst a Kq (f + 1) S t M p T) (hk : CLk CL oc f t (f_X5_readThing S)) : pQ CL Sb Mb oc (f_X12_readSum M) (fun f' S' t' M' => ∃ p' T', aGx bb n Sb Mb c0 st w nst a Kq 5 f' S' t' M' p' T' ∧ T + 1 ≤ T' ∧ p < p' ∧ ¬ sg bb n p' = 42 ∧ ¬ sg bb n p' = 47 ∧ ¬ sg bb n p' = 43 ∧ ¬ sg bb n p' = 45) := by
  have hn := ho.n
  unfold f_X12_readSum
  rcases s_prod ho hm (top_56 hw) (by omega) hKq hns h hk with ⟨M2, f2, S2, t2, m1, m2, p2, T2, ⟨cl2, u2, hr2, k15, ku, kul, krest⟩, k1, k2, k3, k4⟩ | hbad
  · rw [m1, bw_some, if_pos rfl, m2]
    rcases s_sumL (Sb := Sb) (Mb := Mb) (c0 := c0) (st := st) (a := a) (Kq := Kq) ho hm hw hwl hKq hns n FU f2 S2 t2 M2 p2 T2 (by omega) (FU_gt (by omega)) ⟨cl2, u2, hr2, k15, fun x hx => (by have := ku x hx; omega), by omega, krest⟩ k3 k4 with ⟨M', f1, S', t', z1, z2, p', T', z3, z4, z5, z6⟩ | z
    · exact Or.inl ⟨M', f1, S', t', z1, z2, p', T', z3, by omega, by omega, z6⟩
    · exact Or.inr z
  · obtain ⟨S', M', z1, z2, z3⟩ := hbad
    rw [z1, bw_some, if_neg (by decide)]
    exact Or.inr ⟨S', M', rfl, z2, z3⟩
end
