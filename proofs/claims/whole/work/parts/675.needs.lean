/-! needs: the machine -/
def Knd : CS → Option FN := fun S15 => bp (f_X5_finished S15 4) (fun r => some r)
theorem nL_over {bb : Nat → Nat} {n f t : Nat} {S : CS} (ho : bbO bb n) (h : rdS bb n n S) (ht : t ≤ n) : L_X5_readNeeds_7 Knd (f + 1) S (nI t) = Knd S := by
  have hn := ho.n
  unfold L_X5_readNeeds_7
  rw [lo2_succ]
  by_cases z : 600 ≤ t
  · rw [if_pos ((show (600 : Int32) = nI 600 from rfl) ▸ (nI_leI (by omega) (by omega)).mpr z)]
  · unfold f_X10_isOver
    rw [if_neg (fun q => by rw [show (600 : Int32) = nI 600 from rfl, nI_leI (by omega) (by omega)] at q; omega), h.l, h.p, if_neg (fun q => by rw [nI_ltI (by omega) (by omega)] at q; omega), bp_some, if_pos rfl]
theorem nL_in {bb : Nat → Nat} {n f t p : Nat} {S : CS} (ho : bbO bb n) (h : rdS bb n p S) (hp : p < n) (ht : t ≤ p) : L_X5_readNeeds_7 Knd (f + 1) S (nI t) = bw (f_X5_readNext S) (fun x19 S20 => (if x19 = true then L_X5_readNeeds_7 Knd f S20 (nI (t + 1)) else some (none, ci S20 5 (S20.1 2)))) := by
  have hn := ho.n
  unfold L_X5_readNeeds_7
  rw [lo2_succ]
  unfold f_X10_isOver
  rw [h.l, h.p, if_neg (fun z => by rw [show (600 : Int32) = nI 600 from rfl, nI_leI (by omega) (by omega)] at z; omega), if_pos ((nI_ltI (by omega) (by omega)).mpr hp), bp_some, if_neg (by decide)]
  simp only [lt_eq, nI_1]
  rfl
theorem bw_tf {o : Option (Bool × CS)} : bw o (fun x S => if x = true then some (true, S) else some (false, S)) = o := by
  cases o with
  | none => rfl
  | some r =>
    obtain ⟨b, S⟩ := r
    cases b <;> rfl
theorem nx_0 {bb : Nat → Nat} {n p : Nat} {S : CS} (ho : bbO bb n) (h : rdS bb n p S) (hp : p ≤ n) (h15 : S.1 15 = 0) : f_X5_readNext S = f_X5_readAtTest S (sg bb n p) := by
  unfold f_X5_readNext
  rw [c_peek ho h hp, bp_some]
  simp only [jn0]
  rw [if_pos h15, bw_id]
theorem nx_1 {bb : Nat → Nat} {n p : Nat} {S : CS} (ho : bbO bb n) (h : rdS bb n p S) (hp : p ≤ n) (h15 : S.1 15 = 1) : f_X5_readNext S = f_X5_readThing S := by
  unfold f_X5_readNext
  rw [c_peek ho h hp, bp_some]
  simp only [jn0]
  rw [if_neg (by rw [h15]; decide), if_pos h15, bw_id]
theorem nx_2 {bb : Nat → Nat} {n p : Nat} {S : CS} (ho : bbO bb n) (h : rdS bb n p S) (hp : p ≤ n) (h15 : S.1 15 = 2) : f_X5_readNext S = bw (f_X5_readArithmetic S (sg bb n p)) (fun x10 S11 => (if x10 = true then some (true, S11) else bw (f_X5_readComparing S11 (sg bb n p)) (fun x12 S13 => (if x12 = true then some (true, S13) else (if (S13.1 16) = 0 then some (false, S13) else f_X5_readBehindTest S13 (sg bb n p)))))) := by
  unfold f_X5_readNext
  rw [c_peek ho h hp, bp_some]
  simp only [jn0]
  rw [if_neg (by rw [h15]; decide), if_neg (by rw [h15]; decide), if_pos h15]
  simp only [bw_tf]
theorem nx_3 {bb : Nat → Nat} {n p : Nat} {S : CS} (ho : bbO bb n) (h : rdS bb n p S) (hp : p ≤ n) (h15 : S.1 15 = 3) : f_X5_readNext S = f_X5_readBehindTest S (sg bb n p) := by
  unfold f_X5_readNext
  rw [c_peek ho h hp, bp_some]
  simp only [jn0]
  rw [if_neg (by rw [h15]; decide), if_neg (by rw [h15]; decide), if_neg (by rw [h15]; decide), if_neg (by rw [h15]; decide), bw_id]
theorem nx_4 {bb : Nat → Nat} {n p : Nat} {S : CS} (ho : bbO bb n) (h : rdS bb n p S) (hp : p ≤ n) (h15 : S.1 15 = 4) : f_X5_readNext S = (if 8 ≤ S.1 12 then some (false, S) else f_X5_readAtTest S (sg bb n p)) := by
  unfold f_X5_readNext
  rw [c_peek ho h hp, bp_some]
  simp only [jn0]
  rw [if_neg (by rw [h15]; decide), if_neg (by rw [h15]; decide), if_neg (by rw [h15]; decide), if_pos h15, bw_tf]
theorem nk {bb : Nat → Nat} {n p f t : Nat} {S : CS} {ro : Option (Bool × CS)} (ho : bbO bb n) (h : rdS bb n p S) (hp : p ≤ n) (ht : t ≤ p) (h1 : p < n → f_X5_readNext S = ro) (h2 : p = n → ∃ S0, ro = some (false, S0) ∧ S0.1 2 = S.1 2 ∧ fC S0 (ci S 5 (S.1 2))) (h4 : p = n → ¬ S.1 15 = 4) : CLk (L_X5_readNeeds_7 Knd) (L_X5_readNeeds_7 Knd (f + 1) S (nI t)) f t ro := by
  by_cases c : p < n
  · have h1 := h1 c
    refine ⟨fun S' hr => ?_, fun S' hr => ⟨ci S' 5 (S'.1 2), ?_, rfl, gI_ci gI_rf (by decide)⟩⟩
    · rw [nL_in ho h c ht, h1, hr, bw_some, if_pos rfl]
    · rw [nL_in ho h c ht, h1, hr, bw_some, if_neg (by decide)]
  · have hpn : p = n := by omega
    subst hpn
    obtain ⟨S0, a1, a2, a3⟩ := h2 rfl
    refine ⟨fun S' hr => ?_, fun S' hr => ?_⟩
    · rw [a1] at hr; cases hr
    · rw [a1] at hr; cases hr
      refine ⟨ci S 5 (S.1 2), ?_, a2.symm, a3⟩
      rw [nL_over ho h ht]
      show bp (f_X5_finished S 4) _ = _
      unfold f_X5_finished f_X10_failHere
      rw [if_neg (h4 rfl), lt_eq, bw_some, bp_some]
theorem fC_5 {S : CS} {x : Int32} : fC S (ci S 5 x) := gI_ci gI_rf (by decide)
theorem mach_n {bb : Nat → Nat} {n : Nat} {Sb : CS} (ho : bbO bb n) : mach bb n Sb (L_X5_readNeeds_7 Knd) := by
  refine ⟨?_, ?_⟩
  · intro f S t p h hp ht h15 _ _
    refine nk ho h hp ht (fun _ => nx_1 ho h hp h15) (fun e => ?_) (fun _ => by rw [h15]; decide)
    subst e
    exact ⟨S, th_over ho h, rfl, fC_5⟩
  · intro f S t p S' h hp ht h15 hr
    rw [nL_in ho h hp ht, nx_2 ho h (by omega) h15, hr, bw_some, if_pos rfl, bw_some, if_pos rfl]
/-- the first thing of a test -/
theorem nk_first {bb : Nat → Nat} {n p f t : Nat} {S : CS} (ho : bbO bb n) (h : rdS bb n p S) (hp : p ≤ n) (ht : t ≤ p) (h15 : S.1 15 = 0 ∨ (S.1 15 = 4 ∧ p < n ∧ ¬ 8 ≤ S.1 12)) (h1 : ¬ sg bb n p = 40) (h2 : ¬ sg bb n p = 33) : CLk (L_X5_readNeeds_7 Knd) (L_X5_readNeeds_7 Knd (f + 1) S (nI t)) f t (f_X5_readThing (ci S 16 0)) := by
  have e : f_X5_readAtTest S (sg bb n p) = f_X5_readThing (ci S 16 0) := by
    unfold f_X5_readAtTest
    simp only [jn0]
    rw [if_neg h1, if_neg h2, lt_eq, bw_id]
  refine nk ho h hp ht (fun _ => ?_) (fun z => ?_) (fun z => ?_)
  · rcases h15 with h15 | ⟨h15, _, h12⟩
    · rw [nx_0 ho h hp h15, e]
    · rw [nx_4 ho h hp h15, if_neg h12, e]
  · subst z
    exact ⟨ci S 16 0, th_over ho ⟨h.l, h.p, h.b⟩, rfl, ⟨fun k hk => (up_ne (fun z => hk (by rw [z]; decide))).trans (up_ne (fun z => hk (by rw [z]; decide))).symm, fun _ _ => rfl, rfl⟩⟩
  · rcases h15 with h15 | ⟨_, h3, _⟩
    · rw [h15]; decide
    · omega
theorem bt_no {S : CS} {x : Int32} (h1 : ¬ x = 38) (h2 : ¬ x = 41) (h3 : ¬ x = 59) (h4 : ¬ x = 124) : f_X5_readBehindTest S x = some (false, S) := by
  unfold f_X5_readBehindTest
  simp only [jn0]
  rw [if_neg h1, if_neg h2, if_neg h3, if_neg h4]
def stB (bb : Nat → Nat) (n p : Nat) (S : CS) : Prop := (S.1 15 = 2 ∧ ¬ S.1 16 = 0 ∧ ¬ sg bb n p = 42 ∧ ¬ sg bb n p = 47 ∧ ¬ sg bb n p = 43 ∧ ¬ sg bb n p = 45) ∨ S.1 15 = 3
/-- behind a test -/
theorem nk_bt {bb : Nat → Nat} {n p f t : Nat} {S : CS} (ho : bbO bb n) (h : rdS bb n p S) (hp : p ≤ n) (ht : t ≤ p) (h15 : stB bb n p S) : CLk (L_X5_readNeeds_7 Knd) (L_X5_readNeeds_7 Knd (f + 1) S (nI t)) f t (f_X5_readBehindTest S (sg bb n p)) := by
  refine nk ho h hp ht (fun _ => ?_) (fun z => ?_) (fun z => ?_)
  · rcases h15 with ⟨a1, a2, a3, a4, a5, a6⟩ | h15
    · rw [nx_2 ho h hp a1, no_arith a3 a4 a5 a6, bw_some, if_neg (by decide)]
      unfold f_X5_readComparing
      rw [if_neg a2, bw_some, if_neg (by decide), if_neg a2]
    · exact nx_3 ho h hp h15
  · subst z
    have hs : sg bb p p = -1 := if_neg (Nat.lt_irrefl _)
    exact ⟨S, by rw [hs]; exact bt_no (by decide) (by decide) (by decide) (by decide), rfl, fC_5⟩
  · rcases h15 with ⟨a1, _⟩ | h15
    · rw [a1]; decide
    · rw [h15]; decide
/-! needs: levels of brackets and 'not' -/
def lvl (a o : Bool) : List Nat := (if a = true then [38] else []) ++ (if o = true then [124] else [])
def bN (b : Bool) : Nat := if b = true then 1 else 0
abbrev LV : Type := Bool × Bool × Nat
def wL : List LV → List Nat
  | [] => []
  | [x] => lvl x.1 x.2.1 ++ []
  | x :: y :: r => lvl x.1 x.2.1 ++ (x.2.2 :: wL (y :: r))
def wT (s : Nat) (r : List LV) : List Nat := match r with
  | [] => []
  | y :: r => s :: wL (y :: r)
theorem wL_c {x : LV} {r : List LV} : wL (x :: r) = lvl x.1 x.2.1 ++ wT x.2.2 r := by cases r <;> rfl
def cntL : List LV → Nat
  | [] => 0
  | x :: r => bN x.1 + bN x.2.1 + cntL r
def aL : List LV → Nat
  | [] => 0
  | [x] => bN x.1 + bN x.2.1
  | x :: y :: r => bN x.1 + bN x.2.1 + ((if x.2.2 = 33 then 1 else 0) + aL (y :: r))
def aT (s : Nat) (r : List LV) : Nat := match r with
  | [] => 0
  | y :: r => (if s = 33 then 1 else 0) + aL (y :: r)
theorem aL_c {x : LV} {r : List LV} : aL (x :: r) = bN x.1 + bN x.2.1 + aT x.2.2 r := by cases r <;> rfl
def lvT (M : MS) : List LV → Prop
  | [] => True
  | x :: r => M.2 14 r.length = b2 x.1 ∧ M.2 15 r.length = b2 x.2.1 ∧ (r ≠ [] → M.2 13 (r.length - 1) = nI x.2.2 ∧ ((x.2.2 = 33 ∧ x.1 = false ∧ x.2.1 = false) ∨ x.2.2 = 40)) ∧ lvT M r
theorem lvT_cg {M M' : MS} : ∀ {L : List LV}, lvT M L → (∀ i, i + 1 < L.length → M'.2 13 i = M.2 13 i) → (∀ i, i < L.length → M'.2 14 i = M.2 14 i) → (∀ i, i < L.length → M'.2 15 i = M.2 15 i) → lvT M' L := by
  intro L
  induction L with
  | nil => intro _ _ _ _; trivial
  | cons x r ih =>
    intro h h1 h2 h3
    rw [List.length_cons] at h1 h2 h3
    refine ⟨(h2 _ (by omega)).trans h.1, (h3 _ (by omega)).trans h.2.1, fun hr => ?_, ih h.2.2.2 (fun i hi => h1 i (by omega)) (fun i hi => h2 i (by omega)) (fun i hi => h3 i (by omega))⟩
    have hl : 0 < r.length := List.length_pos_iff.mpr hr
    exact ⟨(h1 _ (by omega)).trans (h.2.2.1 hr).1, (h.2.2.1 hr).2⟩
theorem lvl_len {a o : Bool} : (lvl a o).length = bN a + bN o := by cases a <;> cases o <;> rfl
theorem bN_1 {a : Bool} : bN a ≤ 1 := by cases a <;> decide
theorem wL_len : ∀ {r : List LV} {x : LV}, (wL (x :: r)).length ≤ 3 * r.length + 2 := by
  intro r
  induction r with
  | nil => intro x; rw [wL_c, List.length_append, lvl_len]; have := bN_1 (a := x.1); have := bN_1 (a := x.2.1); show _ + 0 ≤ _; omega
  | cons y r ih =>
    intro x
    have hy := ih (x := y)
    rw [wL_c, List.length_append, lvl_len, List.length_cons]
    have := bN_1 (a := x.1)
    have := bN_1 (a := x.2.1)
    show _ + ((wL (y :: r)).length + 1) ≤ _
    omega
theorem cntL_b : ∀ {r : List LV}, cntL r ≤ 2 * r.length := by
  intro r
  induction r with
  | nil => exact Nat.le_refl _
  | cons y r ih =>
    have := bN_1 (a := y.1)
    have := bN_1 (a := y.2.1)
    show bN y.1 + bN y.2.1 + cntL r ≤ 2 * (r.length + 1)
    omega
theorem lvl_in {a o : Bool} {x : Nat} (h : x ∈ lvl a o) : x = 38 ∨ x = 124 := by
  revert h
  cases a <;> cases o <;> unfold lvl <;> simp <;> omega
theorem wL_in {M : MS} : ∀ {L : List LV}, lvT M L → ∀ x, x ∈ wL L → x < 256 := by
  intro L
  induction L with
  | nil => intro _ x hx; exact absurd hx List.not_mem_nil
  | cons y r ih =>
    intro h x hx
    rw [wL_c] at hx
    rcases List.mem_append.mp hx with hx | hx
    · rcases lvl_in hx with e | e <;> omega
    · cases r with
      | nil => exact absurd hx List.not_mem_nil
      | cons z r =>
        rcases List.mem_cons.mp hx with hx | hx
        · have := (h.2.2.1 (List.cons_ne_nil _ _)).2
          omega
        · exact ih h.2.2.2 x hx
theorem top_3 {M : MS} {x : LV} {r : List LV} (h : lvT M (x :: r)) : topL 4 (wL (x :: r)) := by
  rw [wL_c]
  obtain ⟨a, o, s⟩ := x
  cases a with
  | true => exact (by decide : strn 38 < 4)
  | false =>
    cases o with
    | true => exact (by decide : strn 124 < 4)
    | false =>
      cases r with
      | nil => trivial
      | cons y r =>
        show strn s < 4
        have h : (s = 33 ∧ _) ∨ s = 40 := (h.2.2.1 (List.cons_ne_nil _ _)).2
        rcases h with h | h
        · rw [h.1]; decide
        · rw [h]; decide
