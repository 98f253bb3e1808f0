/-! formulas are read: strengths, stacks, codes -/
def strn (o : Nat) : Nat := if o = 33 then 3 else if o = 38 then 2 else if o = 42 then 6 else if o = 43 then 5 else if o = 45 then 5 else if o = 47 then 6 else if o = 60 then 4 else if o = 61 then 4 else if o = 62 then 4 else if o = 124 then 1 else 0
theorem c_strn {o : Nat} (h : o < 256) : f_X5_strengthOf (nI o) = some (nI (strn o)) := by
  have ne : ∀ x, x < 256 → ¬ o = x → ¬ nI o = nI x := fun x hx q e => q ((nI_eq (by omega) (by omega)).mp e)
  unfold f_X5_strengthOf strn
  by_cases c33 : o = 33
  · rw [if_pos c33, if_pos (show nI o = 33 by rw [c33]; rfl)]; rfl
  rw [if_neg c33, if_neg (show ¬ nI o = 33 from ne 33 (by decide) c33)]
  by_cases c38 : o = 38
  · rw [if_pos c38, if_pos (show nI o = 38 by rw [c38]; rfl)]; rfl
  rw [if_neg c38, if_neg (show ¬ nI o = 38 from ne 38 (by decide) c38)]
  by_cases c42 : o = 42
  · rw [if_pos c42, if_pos (show nI o = 42 by rw [c42]; rfl)]; rfl
  rw [if_neg c42, if_neg (show ¬ nI o = 42 from ne 42 (by decide) c42)]
  by_cases c43 : o = 43
  · rw [if_pos c43, if_pos (show nI o = 43 by rw [c43]; rfl)]; rfl
  rw [if_neg c43, if_neg (show ¬ nI o = 43 from ne 43 (by decide) c43)]
  by_cases c45 : o = 45
  · rw [if_pos c45, if_pos (show nI o = 45 by rw [c45]; rfl)]; rfl
  rw [if_neg c45, if_neg (show ¬ nI o = 45 from ne 45 (by decide) c45)]
  by_cases c47 : o = 47
  · rw [if_pos c47, if_pos (show nI o = 47 by rw [c47]; rfl)]; rfl
  rw [if_neg c47, if_neg (show ¬ nI o = 47 from ne 47 (by decide) c47)]
  by_cases c60 : o = 60
  · rw [if_pos c60, if_pos (show nI o = 60 by rw [c60]; rfl)]; rfl
  rw [if_neg c60, if_neg (show ¬ nI o = 60 from ne 60 (by decide) c60)]
  by_cases c61 : o = 61
  · rw [if_pos c61, if_pos (show nI o = 61 by rw [c61]; rfl)]; rfl
  rw [if_neg c61, if_neg (show ¬ nI o = 61 from ne 61 (by decide) c61)]
  by_cases c62 : o = 62
  · rw [if_pos c62, if_pos (show nI o = 62 by rw [c62]; rfl)]; rfl
  rw [if_neg c62, if_neg (show ¬ nI o = 62 from ne 62 (by decide) c62)]
  by_cases c124 : o = 124
  · rw [if_pos c124, if_pos (show nI o = 124 by rw [c124]; rfl)]; rfl
  rw [if_neg c124, if_neg (show ¬ nI o = 124 from ne 124 (by decide) c124)]
  rfl
theorem strn_6 {o : Nat} : strn o ≤ 6 := by
  unfold strn
  by_cases c33 : o = 33
  · rw [if_pos c33]; omega
  rw [if_neg c33]
  by_cases c38 : o = 38
  · rw [if_pos c38]; omega
  rw [if_neg c38]
  by_cases c42 : o = 42
  · rw [if_pos c42]; omega
  rw [if_neg c42]
  by_cases c43 : o = 43
  · rw [if_pos c43]; omega
  rw [if_neg c43]
  by_cases c45 : o = 45
  · rw [if_pos c45]; omega
  rw [if_neg c45]
  by_cases c47 : o = 47
  · rw [if_pos c47]; omega
  rw [if_neg c47]
  by_cases c60 : o = 60
  · rw [if_pos c60]; omega
  rw [if_neg c60]
  by_cases c61 : o = 61
  · rw [if_pos c61]; omega
  rw [if_neg c61]
  by_cases c62 : o = 62
  · rw [if_pos c62]; omega
  rw [if_neg c62]
  by_cases c124 : o = 124
  · rw [if_pos c124]; omega
  rw [if_neg c124]
  omega
def stkW (f : Nat → Int32) : List Nat → Prop
  | [] => True
  | o :: r => f r.length = nI o ∧ stkW f r
theorem stkW_up {f : Nat → Int32} {k : Nat} {v : Int32} : ∀ {ws : List Nat}, stkW f ws → ws.length ≤ k → stkW (upd f k v) ws := by
  intro ws
  induction ws with
  | nil => intro _ _; trivial
  | cons o r ih =>
    intro h hk
    rw [List.length_cons] at hk
    exact ⟨(pk_un (by omega)).trans h.1, ih h.2 (by omega)⟩
theorem stkW_push {f : Nat → Int32} {ws : List Nat} {o : Nat} (h : stkW f ws) : stkW (upd f ws.length (nI o)) (o :: ws) := ⟨pk_us, stkW_up h (Nat.le_refl _)⟩
theorem stkW_app {f : Nat → Int32} {w : List Nat} : ∀ {u : List Nat}, stkW f (u ++ w) → stkW f w := by
  intro u
  induction u with
  | nil => intro h; exact h
  | cons o r ih => intro h; exact ih h.2
def hC (f : Nat → Int32) (cl : List Int32) : Prop := ∀ i, i < cl.length → f i = cl.getD i 0
theorem hC_push {f : Nat → Int32} {cl : List Int32} {c : Int32} (h : hC f cl) : hC (upd f cl.length c) (cl ++ [c]) := by
  intro i hi
  rw [List.length_append] at hi
  have hi : i < cl.length + 1 := hi
  rw [getD_push hi]
  by_cases z : i < cl.length
  · rw [if_pos z, pk_un (by omega)]; exact h i z
  · rw [if_neg z, show i = cl.length by omega, pk_us]
def hM (f : Nat → Int32) (cl : List Int32) : Prop := ∀ i, i < cl.length → f i = mcode (cl.getD i 0)
theorem hM_push {f : Nat → Int32} {cl : List Int32} {c x : Int32} (h : hM f cl) (hx : x = mcode c) : hM (upd f cl.length x) (cl ++ [c]) := by
  intro i hi
  rw [List.length_append] at hi
  have hi : i < cl.length + 1 := hi
  rw [getD_push hi]
  by_cases z : i < cl.length
  · rw [if_pos z, pk_un (by omega)]; exact h i z
  · rw [if_neg z, show i = cl.length by omega, pk_us, hx]
def ng (u : List Nat) : List Int32 := u.map (fun o => -(nI o))
theorem ng_len {u : List Nat} : (ng u).length = u.length := List.length_map _
theorem ng_app {u v : List Nat} : ng (u ++ v) = ng u ++ ng v := List.map_append
def c33 : List Nat → Nat
  | [] => 0
  | o :: r => (if o = 33 then 1 else 0) + c33 r
theorem c33_app {v : List Nat} : ∀ {u : List Nat}, c33 (u ++ v) = c33 u + c33 v := by
  intro u
  induction u with
  | nil => exact (Nat.zero_add _).symm
  | cons o r ih =>
    show (if o = 33 then 1 else 0) + c33 (r ++ v) = (if o = 33 then 1 else 0) + c33 r + c33 v
    rw [ih, Nat.add_assoc]
theorem c33_0 : ∀ {u : List Nat}, (∀ o, o ∈ u → 4 ≤ strn o) → c33 u = 0 := by
  intro u
  induction u with
  | nil => intro _; rfl
  | cons o r ih =>
    intro h
    show (if o = 33 then 1 else 0) + c33 r = 0
    rw [ih (fun x hx => h x (List.mem_cons_of_mem _ hx)), if_neg (fun z => by have := h o (List.mem_cons_self ..); rw [z] at this; exact absurd this (by decide))]
def topL (s : Nat) : List Nat → Prop
  | [] => True
  | o :: _ => strn o < s
theorem c_emit {S : CS} {k : Nat} {c : Int32} (h : S.1 10 = nI k) (hk : k < 600) : f_X5_emit S c = some (ci (ca S 27 (upd (S.2.1 27) k c)) 10 (nI (k + 1))) := by
  unfold f_X5_emit
  rw [h, if_neg (fun z => by rw [show (600 : Int32) = nI 600 from rfl, nI_leI (by omega) (by omega)] at z; omega), chk_nI hk (by decide), nI_clamp (by omega), lt_eq, lt_eq]
  show some (ci (ca S 27 (upd (S.2.1 27) k c)) 10 (S.1 10 + 1)) = _
  rw [h, nI_1]
theorem c_rel {s : Nat} (hs : s < 8) (h0 : 0 < s) {w : List Nat} (hw : topL s w) : ∀ (u : List Nat) (g : Nat) (S : CS) (cl : List Int32) (nst : Nat), u.length < g → S.1 10 = nI cl.length → hC (S.2.1 27) cl → S.1 11 = nI (u ++ w).length → stkW (S.2.1 28) (u ++ w) → (∀ o, o ∈ u ++ w → o < 256) → (∀ o, o ∈ u → s ≤ strn o) → S.1 14 = nI nst → c33 u ≤ nst → nst < 2 ^ 30 → cl.length + u.length ≤ 599 → (u ++ w).length ≤ 600 → ∃ S', L_X5_release_0 (nI s) (fun S11 => some S11) g S = some S' ∧ gI [10, 11, 14] [27] S S' ∧ S'.1 10 = nI (cl ++ ng u).length ∧ hC (S'.2.1 27) (cl ++ ng u) ∧ S'.1 11 = nI w.length ∧ S'.1 14 = nI (nst - c33 u) := by
  intro u
  induction u with
  | nil =>
    intro g S cl nst hg e10 hc e11 hst hb _ e14 _ _ _ hl
    obtain ⟨g, rfl⟩ : ∃ k, g = k + 1 := ⟨g - 1, by omega⟩
    have e11 : S.1 11 = nI w.length := e11
    have hl : w.length ≤ 600 := hl
    refine ⟨S, ?_, gI_rf, by rw [show cl ++ ng [] = cl from List.append_nil _]; exact e10, by rw [show cl ++ ng [] = cl from List.append_nil _]; exact hc, e11, e14⟩
    unfold L_X5_release_0
    rw [lo1_succ]
    cases w with
    | nil => rw [e11, if_pos (show nI ([] : List Nat).length ≤ 0 by decide)]
    | cons o r =>
      have hst : S.2.1 28 r.length = nI o ∧ stkW (S.2.1 28) r := hst
      have ho := hb o (List.mem_cons_self ..)
      rw [List.length_cons] at e11 hl
      have s6 := strn_6 (o := o)
      rw [e11, if_neg (nI_nle (by omega) (by omega)), nI_pred, chk_nI (by omega) (by decide), nI_clamp (by omega), hst.1, c_strn ho, bp_some, if_pos ((nI_ltI (by omega) (by omega)).mpr hw)]
  | cons o u ih =>
    intro g S cl nst hg e10 hc e11 hst hb hsu e14 h33 hnst hcl hl
    obtain ⟨g, rfl⟩ : ∃ k, g = k + 1 := ⟨g - 1, by omega⟩
    have hst : S.2.1 28 (u ++ w).length = nI o ∧ stkW (S.2.1 28) (u ++ w) := hst
    have ho := hb o (List.mem_cons_self ..)
    have hso := hsu o (List.mem_cons_self ..)
    have s6 := strn_6 (o := o)
    have e11 : S.1 11 = nI ((u ++ w).length + 1) := e11
    have hl : (u ++ w).length + 1 ≤ 600 := hl
    rw [List.length_cons] at hg hcl
    have h33 : (if o = 33 then 1 else 0) + c33 u ≤ nst := h33
    have hng : cl ++ ng (o :: u) = (cl ++ [-(nI o)]) ++ ng u := (List.append_assoc cl [-(nI o)] (ng u)).symm
    have hlen : (cl ++ [-(nI o)]).length = cl.length + 1 := List.length_append
    have k1 : (ci S 11 (nI (u ++ w).length)).1 10 = nI cl.length := e10
    have kst : (ci S 11 (nI (u ++ w).length)).2.1 28 (u ++ w).length = nI o := hst.1
    have e1 : L_X5_release_0 (nI s) (fun S11 => some S11) (g + 1) S = (if nI o = 33 then L_X5_release_0 (nI s) (fun S11 => some S11) g (ci (ci (ca (ci S 11 (nI (u ++ w).length)) 27 (upd (S.2.1 27) cl.length (-(nI o)))) 10 (nI (cl.length + 1))) 14 (nI nst - 1)) else L_X5_release_0 (nI s) (fun S11 => some S11) g (ci (ca (ci S 11 (nI (u ++ w).length)) 27 (upd (S.2.1 27) cl.length (-(nI o)))) 10 (nI (cl.length + 1)))) := by
      unfold L_X5_release_0
      rw [lo1_succ]
      rw [e11, if_neg (nI_nle (by omega) (by omega)), nI_pred, chk_nI (by omega) (by decide), nI_clamp (by omega), hst.1, c_strn ho, bp_some, if_neg (fun z => by rw [nI_ltI (by omega) (by omega)] at z; omega), lt_eq]
      rw [show (ci S 11 (nI (u ++ w).length)).1 11 = nI (u ++ w).length from rfl, chk_nI (by omega) (by decide), nI_clamp (by omega), kst, c_emit k1 (by omega), bp_some]
      rw [show (ci (ca (ci S 11 (nI (u ++ w).length)) 27 (upd ((ci S 11 (nI (u ++ w).length)).2.1 27) cl.length (-(nI o)))) 10 (nI (cl.length + 1))).1 11 = nI (u ++ w).length from rfl, chk_nI (by omega) (by decide), nI_clamp (by omega)]
      rw [show (ci (ca (ci S 11 (nI (u ++ w).length)) 27 (upd ((ci S 11 (nI (u ++ w).length)).2.1 27) cl.length (-(nI o)))) 10 (nI (cl.length + 1))).2.1 28 (u ++ w).length = nI o from hst.1, lt_eq]
      rw [show (ci (ca (ci S 11 (nI (u ++ w).length)) 27 (upd ((ci S 11 (nI (u ++ w).length)).2.1 27) cl.length (-(nI o)))) 10 (nI (cl.length + 1))).1 14 = nI nst from e14]
      rfl
    rw [e1, hng]
    have hb' : ∀ x, x ∈ u ++ w → x < 256 := fun x hx => hb x (List.mem_cons_of_mem _ hx)
    have hs' : ∀ x, x ∈ u → s ≤ strn x := fun x hx => hsu x (List.mem_cons_of_mem _ hx)
    by_cases z : o = 33
    · rw [if_pos z] at h33
      rw [if_pos (show nI o = 33 by rw [z]; rfl), show nI nst - 1 = nI (nst - 1) from pk_sub (b := 1) (by omega)]
      obtain ⟨S', q1, q2, q3, q4, q5, q6⟩ := ih g (ci (ci (ca (ci S 11 (nI (u ++ w).length)) 27 (upd (S.2.1 27) cl.length (-(nI o)))) 10 (nI (cl.length + 1))) 14 (nI (nst - 1))) (cl ++ [-(nI o)]) (nst - 1) (by omega) (by rw [hlen]; rfl) (hC_push hc) rfl hst.2 hb' hs' rfl (by omega) (by omega) (by rw [hlen]; omega) (by omega)
      refine ⟨S', q1, gI_tr (gI_ci (gI_ci (gI_ca (gI_ci gI_rf (by decide)) (by decide)) (by decide)) (by decide)) q2 (fun _ z => z) (fun _ z => z), q3, q4, q5, ?_⟩
      rw [q6]
      show nI (nst - 1 - c33 u) = nI (nst - ((if o = 33 then 1 else 0) + c33 u))
      rw [if_pos z, Nat.sub_sub]
    · rw [if_neg z] at h33
      rw [if_neg (show ¬ nI o = 33 from fun e => z ((nI_eq (b := 33) (by omega) (by omega)).mp e))]
      obtain ⟨S', q1, q2, q3, q4, q5, q6⟩ := ih g (ci (ca (ci S 11 (nI (u ++ w).length)) 27 (upd (S.2.1 27) cl.length (-(nI o)))) 10 (nI (cl.length + 1))) (cl ++ [-(nI o)]) nst (by omega) (by rw [hlen]; rfl) (hC_push hc) rfl hst.2 hb' hs' e14 (by omega) (by omega) (by rw [hlen]; omega) (by omega)
      refine ⟨S', q1, gI_tr (gI_ci (gI_ca (gI_ci gI_rf (by decide)) (by decide)) (by decide)) q2 (fun _ z => z) (fun _ z => z), q3, q4, q5, ?_⟩
      rw [q6]
      show nI (nst - c33 u) = nI (nst - ((if o = 33 then 1 else 0) + c33 u))
      rw [if_neg z, Nat.zero_add]
theorem c_await {S : CS} {k p o : Nat} {x : Int32} (h : S.1 11 = nI k) (hk : k < 600) (hp : S.1 2 = nI p) : f_X5_await S (nI o) x = some (true, ci (ci (ci (ca S 28 (upd (S.2.1 28) k (nI o))) 11 (nI (k + 1))) 2 (nI (p + 1))) 15 x) := by
  unfold f_X5_await f_X10_step
  rw [h, if_pos ((show (600 : Int32) = nI 600 from rfl) ▸ (nI_ltI (by omega) (by omega)).mpr hk), chk_nI hk (by decide), nI_clamp (by omega), lt_eq, lt_eq, lt_eq, bp_some, lt_eq]
  show some (true, ci (ci (ci (ca S 28 (upd (S.2.1 28) k (nI o))) 11 (S.1 11 + 1)) 2 (S.1 2 + 1)) 15 x) = _
  rw [h, hp, nI_1, nI_1]
theorem m_does {M : MS} {k : Nat} {x : Int32} (h : M.1 11 = nI k) (hk : k < 310) : f_X12_does M x = some (si (sa M 9 (upd (M.2 9) k x)) 11 (nI (k + 1))) := by
  unfold f_X12_does
  rw [h, chk_nI hk (by decide), nI_clamp (by omega), lt_eq, lt_eq]
  show some (si (sa M 9 (upd (M.2 9) k x)) 11 (M.1 11 + 1)) = _
  rw [h, nI_1]
def thC (c : Int32) : Prop := (0 ≤ c.toInt ∧ c.toInt ≤ 9999999) ∨ (¬ 0 ≤ c.toInt ∧ c ∈ lettersL)
theorem thC_ty {c : Int32} (h : thC c) {st : List Bool} (hl : st.length < 60) : ty1 st c = some (false :: st) := by
  unfold ty1
  rcases h with ⟨h1, h2⟩ | ⟨h1, h2⟩
  · rw [if_pos h1, if_pos ⟨h2, hl⟩]
  · rw [if_neg h1, if_pos h2, if_pos hl]
theorem tyL_app {b : List Int32} : ∀ (a : List Int32) (st st' : List Bool), tyL a st = some st' → tyL (a ++ b) st = tyL b st' := by
  intro a
  induction a with
  | nil => intro st st' h; cases h; rfl
  | cons c r ih =>
    intro st st' h
    show (match ty1 st c with | none => none | some st'' => tyL (r ++ b) st'') = _
    have h : (match ty1 st c with | none => none | some st'' => tyL r st'') = some st' := h
    cases e : ty1 st c with
    | none => rw [e] at h; cases h
    | some x => rw [e] at h; exact ih x st' h
theorem tyL_1 {a : List Int32} {c : Int32} {st st' : List Bool} (h : tyL a [] = some st) (h2 : ty1 st c = some st') : tyL (a ++ [c]) [] = some st' := by
  rw [tyL_app a [] st h]
  show (match ty1 st c with | none => none | some st'' => tyL [] st'') = _
  rw [h2]; rfl
theorem tyL_d {cl : List Int32} {b : Nat} {c : Int32} {st st' : List Bool} (hb : b ≤ cl.length) (h : tyL (cl.drop b) [] = some st) (h2 : ty1 st c = some st') : tyL ((cl ++ [c]).drop b) [] = some st' := by
  rw [List.drop_append_of_le_length hb]; exact tyL_1 h h2
def tyD (c0 X : List Int32) (st : List Bool) : Prop := ∃ d, X = c0 ++ d ∧ tyL d [] = some st
theorem tyD_1 {c0 X : List Int32} {c : Int32} {st st' : List Bool} (h : tyD c0 X st) (h2 : ty1 st c = some st') : tyD c0 (X ++ [c]) st' := by
  obtain ⟨d, rfl, hd⟩ := h
  exact ⟨d ++ [c], List.append_assoc _ _ _, tyL_1 hd h2⟩
theorem lt_ok {b : Nat} (h : b ∈ ltr_1) : ∃ k, f_X12_nameOf (nI b) = some k ∧ k ≠ -1 ∧ 10000000 + k = mcode (-(nI b)) ∧ ¬ 0 ≤ (-(nI b)).toInt ∧ (-(nI b)) ∈ lettersL ∧ 0 < b ∧ b < 128 ∧ (b < 48 ∨ 57 < b) := by
  unfold ltr_1 at h
  simp only [List.mem_cons, List.not_mem_nil, or_false] at h
  rcases h with rfl | rfl | rfl | rfl | rfl | rfl | rfl | rfl | rfl | rfl | rfl | rfl | rfl
  all_goals exact ⟨_, rfl, by decide, by decide, by decide, by decide, by decide, by decide, by decide⟩
theorem nm_tot (y : Int32) : ∃ x, f_X12_nameOf y = some x := by
  unfold f_X12_nameOf
  simp only [jn0]
  by_cases c98 : y = 98
  · rw [if_pos c98]; exact ⟨_, rfl⟩
  rw [if_neg c98]
  by_cases c100 : y = 100
  · rw [if_pos c100]; exact ⟨_, rfl⟩
  rw [if_neg c100]
  by_cases c101 : y = 101
  · rw [if_pos c101]; exact ⟨_, rfl⟩
  rw [if_neg c101]
  by_cases c103 : y = 103
  · rw [if_pos c103]; exact ⟨_, rfl⟩
  rw [if_neg c103]
  by_cases c104 : y = 104
  · rw [if_pos c104]; exact ⟨_, rfl⟩
  rw [if_neg c104]
  by_cases c108 : y = 108
  · rw [if_pos c108]; exact ⟨_, rfl⟩
  rw [if_neg c108]
  by_cases c109 : y = 109
  · rw [if_pos c109]; exact ⟨_, rfl⟩
  rw [if_neg c109]
  by_cases c115 : y = 115
  · rw [if_pos c115]; exact ⟨_, rfl⟩
  rw [if_neg c115]
  by_cases c118 : y = 118
  · rw [if_pos c118]; exact ⟨_, rfl⟩
  rw [if_neg c118]
  by_cases c119 : y = 119
  · rw [if_pos c119]; exact ⟨_, rfl⟩
  rw [if_neg c119]
  by_cases d1 : y < 120
  · rw [if_pos d1]; exact ⟨_, rfl⟩
  rw [if_neg d1]
  by_cases d2 : 122 < y
  · rw [if_pos d2]; exact ⟨_, rfl⟩
  rw [if_neg d2]
  exact ⟨_, rfl⟩
theorem lt_no {bb : Nat → Nat} {n p : Nat} (ho : bbO bb n) (h : ¬ (p < n ∧ bb p ∈ ltr_1)) : f_X12_nameOf (sg bb n p) = some (-1) := by
  unfold sg
  by_cases c : p < n
  · rw [if_pos c]
    have hb := ho.b p c
    have hn : ¬ bb p ∈ ltr_1 := fun z => h ⟨c, z⟩
    unfold ltr_1 at hn
    simp only [List.mem_cons, List.not_mem_nil, or_false, not_or] at hn
    have ne : ∀ x, x < 256 → ¬ bb p = x → ¬ nI (bb p) = nI x := fun x hx q e => q ((nI_eq (by omega) (by omega)).mp e)
    unfold f_X12_nameOf
    simp only [jn0]
    rw [if_neg (show ¬ nI (bb p) = 98 from ne 98 (by decide) (by omega)), if_neg (show ¬ nI (bb p) = 100 from ne 100 (by decide) (by omega)), if_neg (show ¬ nI (bb p) = 101 from ne 101 (by decide) (by omega)), if_neg (show ¬ nI (bb p) = 103 from ne 103 (by decide) (by omega)), if_neg (show ¬ nI (bb p) = 104 from ne 104 (by decide) (by omega)), if_neg (show ¬ nI (bb p) = 108 from ne 108 (by decide) (by omega)), if_neg (show ¬ nI (bb p) = 109 from ne 109 (by decide) (by omega)), if_neg (show ¬ nI (bb p) = 115 from ne 115 (by decide) (by omega)), if_neg (show ¬ nI (bb p) = 118 from ne 118 (by decide) (by omega)), if_neg (show ¬ nI (bb p) = 119 from ne 119 (by decide) (by omega))]
    by_cases z : bb p < 120
    · rw [if_pos (show nI (bb p) < 120 from (nI_ltI (b := 120) (by omega) (by omega)).mpr z)]
    · rw [if_neg (show ¬ nI (bb p) < 120 from fun q => z ((nI_ltI (b := 120) (by omega) (by omega)).mp q)), if_pos (show 122 < nI (bb p) from (nI_ltI (a := 122) (by omega) (by omega)).mpr (by omega))]
  · rw [if_neg c]; decide
