/-! needs: a cond's relation, behind a test -/
def cB (S0 : CS) (M0 : MS) (S : CS) (M : MS) : Prop := gI [2, 3, 5, 10, 11, 13, 14, 15, 16] [27, 28] S0 S ∧ fI [6, 7, 8, 11, 12, 16] [9, 13, 14, 15] M0 M
def hG (bb : Nat → Nat) (n : Nat) (S0 : CS) (M0 : MS) (c0 : List Int32) (f : Nat) (S : CS) (t : Nat) (M : MS) (p T C : Nat) (x : LV) (r : List LV) : Prop := ∃ cl, fR bb n S M f S t M p cl [] (wL (x :: r)) T r.length ∧ cB S0 M0 S M ∧ r.length ≤ 6 ∧ lvT M (x :: r) ∧ M.1 16 = nI r.length ∧ tyD c0 cl (List.replicate (cntL (x :: r)) true) ∧ cl.length + aL (x :: r) ≤ 2 * T + 6 * C + r.length ∧ 2 * C ≤ T ∧ cntL (x :: r) ≤ T ∧ (S.1 15 = 0 ∨ (S.1 15 = 4 ∧ p < n ∧ ¬ 8 ≤ S.1 12))
def bG (bb : Nat → Nat) (n : Nat) (S0 : CS) (M0 : MS) (c0 : List Int32) (f : Nat) (S : CS) (t : Nat) (M : MS) (p T C : Nat) (x : LV) (r : List LV) : Prop := ∃ cl u, fR bb n S M f S t M p cl u (wL (x :: r)) T (r.length + c33 u) ∧ cB S0 M0 S M ∧ r.length ≤ 6 ∧ lvT M (x :: r) ∧ M.1 16 = nI r.length ∧ tyD c0 (cl ++ ng u) (List.replicate (cntL (x :: r) + 1) true) ∧ (cl ++ ng u).length + 1 + aL (x :: r) ≤ 2 * T + 6 * C ∧ 2 * C ≤ T ∧ cntL (x :: r) + 1 ≤ T ∧ (∀ o, o ∈ u → 3 ≤ strn o) ∧ (u ++ wL (x :: r)).length ≤ 60 ∧ stB bb n p S
def cE (bb : Nat → Nat) (n : Nat) (S0 : CS) (M0 : MS) (c0 : List Int32) (p0 : Nat) (f : Nat) (S : CS) (t : Nat) (M : MS) : Prop := ∃ p T C cl, fR bb n S M f S t M p cl [] [] T 0 ∧ p0 < p ∧ S.1 15 = 4 ∧ fC S0 S ∧ S.1 12 = S0.1 12 + 1 ∧ S.2.1 29 = upd (S0.2.1 29) (S0.1 12).toNatClampNeg (nI cl.length) ∧ fI [6, 7, 8, 11, 12, 16] [9, 13, 14, 15] M0 M ∧ tyD c0 cl [true] ∧ cl.length ≤ 2 * T + 6 * C ∧ 2 * C ≤ T
def ctB (g : Nat) (x15 : Int32) (S16 : MS) : Option (Bool × MS) := if x15 = 0 then bw (f_X12_takes S16 59) (fun x18 S19 => some (x18, S19)) else (if x15 = -1 then some (false, S16) else lt (si S16 6 (S16.1 6 + 1)) fun S17 => L_X12_readCond_19 g S17)
theorem ty_r1 {k : Nat} {c0 X : List Int32} {o : Nat} (h : tyD c0 X (List.replicate (k + 1 + 1) true)) (ho : o ∈ [38, 124]) : tyD c0 (X ++ [-(nI o)]) (List.replicate (k + 1) true) := tyD_1 (show tyD c0 X (true :: true :: List.replicate k true) from h) (ty_lg ho)
section
variable {bb : Nat → Nat} {n : Nat} {Sb : CS} {Mb : MS}
/-- an operator that waits in both is done: 'and', then 'or' -/
theorem em_x {f : Nat} {S : CS} {t : Nat} {M : MS} {p : Nat} {cl : List Int32} {u w : List Nat} {T nst o k : Nat} {c0 : List Int32} {K : MS → Option (Int32 × MS)} {x : Int32} (h : fR bb n Sb Mb f S t M p cl u (o :: w) T nst) (hx : x = mcode (-(nI o))) (ho : o ∈ [38, 124]) (hl : (cl ++ ng u).length < 310) (hty : tyD c0 (cl ++ ng u) (List.replicate (k + 1 + 1) true)) : ∃ M1, bp (f_X12_does M x) K = K M1 ∧ fR bb n Sb Mb f S t M1 p cl (u ++ [o]) w T nst ∧ tyD c0 (cl ++ ng (u ++ [o])) (List.replicate (k + 1) true) ∧ (cl ++ ng (u ++ [o])).length = (cl ++ ng u).length + 1 ∧ fI [11] [9] M M1 := by
  obtain ⟨M1, d1, d2, d3⟩ := fR_does h hx hl
  have ec : cl ++ ng (u ++ [o]) = (cl ++ ng u) ++ [-(nI o)] := by rw [ng_app, List.append_assoc]; rfl
  refine ⟨M1, by rw [d1, bp_some], d2, ?_, ?_, d3⟩
  · rw [ec]; exact ty_r1 hty ho
  · rw [ec]; exact List.length_append
theorem c33_s {u : List Nat} {o : Nat} (h : o ∈ [38, 124]) : c33 (u ++ [o]) = c33 u := by
  rw [c33_app]
  simp only [List.mem_cons, List.not_mem_nil, or_false] at h
  rcases h with rfl | rfl <;> rfl
theorem em_and {f : Nat} {S : CS} {t : Nat} {M : MS} {p : Nat} {cl : List Int32} {u : List Nat} {T nst : Nat} {a o : Bool} {s : Nat} {r : List LV} {c0 : List Int32} {g : Nat} (h : fR bb n S M f S t M p cl u (wL ((a, o, s) :: r)) T nst) (hl : (cl ++ ng u).length < 310) (hty : tyD c0 (cl ++ ng u) (List.replicate (cntL ((a, o, s) :: r) + 1) true)) (hM : M.2 14 r.length = b2 a) (hu : ∀ o, o ∈ u → 3 ≤ strn o) : ∃ M1 u1, (if M.2 14 r.length = 0 then btA g M else bp (f_X12_does M 20000038) (fun S25 => btA g S25)) = btA g M1 ∧ fR bb n S M f S t M1 p cl u1 (wL ((false, o, s) :: r)) T nst ∧ tyD c0 (cl ++ ng u1) (List.replicate (cntL ((false, o, s) :: r) + 1) true) ∧ (cl ++ ng u1).length = (cl ++ ng u).length + bN a ∧ fI [11] [9] M M1 ∧ c33 u1 = c33 u ∧ (∀ o, o ∈ u1 → 2 ≤ strn o) ∧ u1 ++ wL ((false, o, s) :: r) = u ++ wL ((a, o, s) :: r) := by
  rw [hM]
  cases a with
  | false => exact ⟨M, u, by rw [if_pos (show b2 false = 0 from rfl)], h, hty, rfl, fI_rf, rfl, fun x hx => (by have := hu x hx; omega), rfl⟩
  | true =>
    rw [wL_t] at h
    have e1 : cntL ((true, o, s) :: r) + 1 = cntL ((false, o, s) :: r) + 1 + 1 := by rw [cnt_t, cnt_t]; show 1 + bN o + cntL r + 1 = 0 + bN o + cntL r + 1 + 1; omega
    rw [e1] at hty
    obtain ⟨M1, q1, q2, q3, q4, q5⟩ := em_x (K := btA g) (x := 20000038) h (by decide) (by decide) hl hty
    refine ⟨M1, u ++ [38], by rw [if_neg (by decide)]; exact q1, q2, q3, q4, q5, c33_s (by decide), ?_, by rw [wL_t, List.append_assoc]; rfl⟩
    intro x hx
    rcases List.mem_append.mp hx with hx | hx
    · have := hu x hx; omega
    · rw [List.mem_singleton.mp hx]; decide
theorem em_or {f : Nat} {S : CS} {t : Nat} {M : MS} {p : Nat} {cl : List Int32} {u : List Nat} {T nst : Nat} {o : Bool} {s : Nat} {r : List LV} {c0 : List Int32} {g : Nat} (h : fR bb n Sb Mb f S t M p cl u (wL ((false, o, s) :: r)) T nst) (hl : (cl ++ ng u).length < 310) (hty : tyD c0 (cl ++ ng u) (List.replicate (cntL ((false, o, s) :: r) + 1) true)) {y : Int32} (hM : y = b2 o) (hu : ∀ o, o ∈ u → 2 ≤ strn o) : ∃ M1 u1, (if y = 0 then btC g M else bp (f_X12_does M 20000124) (fun S25 => btC g S25)) = btC g M1 ∧ fR bb n Sb Mb f S t M1 p cl u1 (wL ((false, false, s) :: r)) T nst ∧ tyD c0 (cl ++ ng u1) (List.replicate (cntL ((false, false, s) :: r) + 1) true) ∧ (cl ++ ng u1).length = (cl ++ ng u).length + bN o ∧ fI [11] [9] M M1 ∧ c33 u1 = c33 u ∧ (∀ o, o ∈ u1 → 1 ≤ strn o) ∧ u1 ++ wL ((false, false, s) :: r) = u ++ wL ((false, o, s) :: r) := by
  rw [hM]
  cases o with
  | false => exact ⟨M, u, by rw [if_pos (show b2 false = 0 from rfl)], h, hty, rfl, fI_rf, rfl, fun x hx => (by have := hu x hx; omega), rfl⟩
  | true =>
    rw [wL_o] at h
    have e1 : cntL ((false, true, s) :: r) + 1 = cntL ((false, false, s) :: r) + 1 + 1 := by rw [cnt_t, cnt_t]; show 0 + 1 + cntL r + 1 = 0 + 0 + cntL r + 1 + 1; omega
    rw [e1] at hty
    obtain ⟨M1, q1, q2, q3, q4, q5⟩ := em_x (K := btC g) (x := 20000124) h (by decide) (by decide) hl hty
    refine ⟨M1, u ++ [124], by rw [if_neg (by decide)]; exact q1, q2, q3, q4, q5, c33_s (by decide), ?_, by rw [wL_o, List.append_assoc]; rfl⟩
    intro x hx
    rcases List.mem_append.mp hx with hx | hx
    · have := hu x hx; omega
    · rw [List.mem_singleton.mp hx]; decide
end
theorem topS {s k : Nat} {r : List LV} (hk : 0 < k) (hs : r ≠ [] → s = 40) : topL k (wL ((false, false, s) :: r)) := by
  cases r with
  | nil => trivial
  | cons y r =>
    show strn s < k
    rw [hs (List.cons_ne_nil _ _)]; exact hk
theorem topO {s : Nat} {o : Bool} {r : List LV} (hs : r ≠ [] → s = 40) : topL 2 (wL ((false, o, s) :: r)) := by
  cases o with
  | true => rw [wL_o]; exact (by decide : strn 124 < 2)
  | false => exact topS (by decide) hs
