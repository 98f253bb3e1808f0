/-! asking: bounds, and what a mark's fields are on both sides -/
def inR (x : Int32) (n : Nat) : Bool := decide (0 ≤ x.toInt ∧ x.toInt < (n : Int))
theorem inR_nI {x : Int32} {n : Nat} (h : inR x n = true) : ∃ k, k < n ∧ x = nI k := by
  obtain ⟨h1, h2⟩ := of_decide_eq_true h
  obtain ⟨j, hj, rfl⟩ := nI_of (x := x) (by rw [Int32.lt_iff_toInt_lt]; exact Int.not_lt.mpr h1)
  rw [nI_toInt hj] at h2
  exact ⟨j, by omega, rfl⟩
theorem inR_of {k n : Nat} (h : k < n) (hn : n < 2 ^ 31) : inR (nI k) n = true := decide_eq_true (by rw [nI_toInt (by omega)]; omega)
theorem has_gen {x y : Int32} {n : Nat} (hn : n < 2 ^ 31) (hy : y = nI n) : (if x < 0 then some false else (if y ≤ x then some false else some true)) = some (inR x n) := by
  subst hy
  unfold inR
  have e := nI_toInt hn
  by_cases c1 : x < 0
  · rw [if_pos c1]; rw [Int32.lt_iff_toInt_lt] at c1
    rw [decide_eq_false]; intro h; have : (0 : Int32).toInt = 0 := rfl; omega
  · rw [if_neg c1]; rw [Int32.lt_iff_toInt_lt] at c1
    have : (0 : Int32).toInt = 0 := rfl
    by_cases c2 : nI n ≤ x
    · rw [if_pos c2]; rw [Int32.le_iff_toInt_le, e] at c2
      rw [decide_eq_false]; omega
    · rw [if_neg c2]; rw [Int32.le_iff_toInt_le, e] at c2
      rw [decide_eq_true]; omega
theorem isIn_gen {x y : Int32} {n : Nat} (hn : n < 2 ^ 31) (hy : y = nI n) : f_X12_isIn x 0 (y - 1) = some (inR x n) := by
  subst hy
  unfold f_X12_isIn inR
  have z : (0 : Int32).toInt = 0 := rfl
  have e : (nI n - 1).toInt = (n : Int) - 1 := by
    cases n with
    | zero => rfl
    | succ m => rw [nI_pred, nI_toInt (by omega)]; omega
  by_cases c1 : x < 0
  · rw [if_pos c1]; rw [Int32.lt_iff_toInt_lt] at c1
    rw [decide_eq_false]; omega
  · rw [if_neg c1]; rw [Int32.lt_iff_toInt_lt] at c1
    by_cases c2 : nI n - 1 < x
    · rw [if_pos c2]; rw [Int32.lt_iff_toInt_lt, e] at c2
      rw [decide_eq_false]; omega
    · rw [if_neg c2]; rw [Int32.lt_iff_toInt_lt, e] at c2
      rw [decide_eq_true]; omega
theorem isIn_le {x : Int32} {n : Nat} (hn : n < 2 ^ 30) : f_X12_isIn x 0 (nI n) = some (inR x (n + 1)) := by
  rw [← nI_pred n]; exact isIn_gen (by omega) rfl
theorem c_hasMark {V : VW} {S : CS} (hV : VOK V) (hS : tC V S) (x : Int32) : f_X1_hasMark S x = some (inR x V.n) := has_gen (by have := hV.n; omega) hS.n
theorem c_hasE {V : VW} {S : CS} (hV : VOK V) (hS : tC V S) (x : Int32) : f_X8_has_pe S x = some (inR x V.ne) := has_gen (by have := hV.ne; omega) hS.ne
theorem c_hasP {V : VW} {S : CS} (hV : VOK V) (hS : tC V S) (x : Int32) : f_X8_has_pp S x = some (inR x V.np) := has_gen (by have := hV.np; omega) hS.np
theorem c_hasA {V : VW} {S : CS} (hV : VOK V) (hS : tC V S) (x : Int32) : f_X8_has_pa S x = some (inR x V.na) := has_gen (by have := hV.na; omega) hS.na
theorem c_isScope (x : Int32) : f_X11_isScope x = some (inR x 22) := by
  have h := isIn_le (x := x) (n := 21) (by decide)
  exact h
theorem c_isDay (x : Int32) : f_X11_isDay x = some (inR x 20001) := by
  have h := isIn_le (x := x) (n := 20000) (by decide)
  exact h
theorem m_isScope (x : Int32) : f_X12_isScope x = some (inR x 22) := by
  unfold f_X12_isScope
  rw [show (21 : Int32) = nI 21 from rfl, isIn_le (by decide)]; rfl
theorem m_isMark {V : VW} {M : MS} (hV : VOK V) (hM : tR V (M.2 0)) (x : Int32) : f_X12_isMark M x = some (inR x V.n) := by
  unfold f_X12_isMark
  rw [chk_of (i := 3) (k := 3) rfl (by decide) (by decide), isIn_gen (n := V.n) (by have := hV.n; omega) (show M.2 0 (3 : Int32).toNatClampNeg = nI V.n from hM.n)]; rfl
theorem m_isAth {V : VW} {M : MS} (hV : VOK V) (hM : tR V (M.2 0)) (x : Int32) : f_X12_isAthlete M x = some (inR x V.na) := by
  unfold f_X12_isAthlete
  rw [chk_of (i := 2) (k := 2) rfl (by decide) (by decide), isIn_gen (n := V.na) (by have := hV.na; omega) (show M.2 0 (2 : Int32).toNatClampNeg = nI V.na from hM.na)]; rfl
def vAsk (V : VW) (e s d : Int32) : Bool := inR e V.ne && inR s 22 && inR d 20001
theorem c_asked {V : VW} {S : CS} (hV : VOK V) (hS : tC V S) (e s d : Int32) : f_X11_isAsked S e s d = some (vAsk V e s d) := by
  unfold f_X11_isAsked vAsk
  simp only [c_hasE hV hS, c_isScope, c_isDay, bp_some]
  cases inR e V.ne <;> cases inR s 22 <;> cases inR d 20001 <;> rfl
theorem m_asked {V : VW} {M : MS} (hV : VOK V) (hM : tR V (M.2 0)) (e s d : Int32) : f_X12_canAsk M e s d = some (vAsk V e s d) := by
  unfold f_X12_canAsk vAsk
  rw [chk_of (i := 0) (k := 0) rfl (by decide) (by decide), isIn_gen (n := V.ne) (by have := hV.ne; omega) (show M.2 0 (0 : Int32).toNatClampNeg = nI V.ne from hM.ne), show (20000 : Int32) = nI 20000 from rfl]
  simp only [m_isScope, isIn_le (x := d) (n := 20000) (by decide), bp_some]
  cases inR e V.ne <;> cases inR s 22 <;> cases inR d 20001 <;> rfl
def vBet (V : VW) (e : Nat) (x y : Int32) : Bool := if V.e0 e = 0 then decide (x < y) else decide (y < x)
def vAhead (V : VW) (a b : Nat) : Bool := decide (V.dy a < V.dy b ∨ V.dy a = V.dy b ∧ (V.mi a < V.mi b ∨ V.mi a = V.mi b ∧ a < b))
def vBetM (V : VW) (a b : Nat) : Bool := vBet V (V.ev a) (nI (V.va a)) (nI (V.va b))
theorem ite_nle {x y : Int32} : (if x ≤ y then some false else some true) = some (decide (y < x)) := by
  by_cases c : x ≤ y
  · rw [if_pos c, decide_eq_false]; rw [Int32.le_iff_toInt_le] at c; rw [Int32.lt_iff_toInt_lt]; omega
  · rw [if_neg c, decide_eq_true]; rw [Int32.le_iff_toInt_le] at c; rw [Int32.lt_iff_toInt_lt]; omega
theorem m_better {V : VW} {M : MS} (hV : VOK V) (hM : tR V (M.2 0)) {e : Nat} (he : e < V.ne) (x y : Int32) : f_X12_isBetter M (nI e) x y = some (vBet V e x y) := by
  have h6 := hV.ne
  have e1 : (5 : Int32) + 2 * nI e = nI (5 + 2 * e) := by rw [show (5 : Int32) = nI 5 from rfl, show (2 : Int32) = nI 2 from rfl, pk_mul, nI_add]
  unfold f_X12_isBetter vBet
  rw [e1, chk_nI (by omega) (by decide), nI_clamp (by omega), hM.e0 e he, ite_nle, ite_nle]
  split <;> rfl
theorem m_ahead {V : VW} {M : MS} (hV : VOK V) (hM : tR V (M.2 0)) {a b : Nat} (ha : a < V.n) (hb : b < V.n) : f_X12_isAhead M (nI a) (nI b) = some (vAhead V a b) := by
  have h60 := hV.n
  have d1 := hV.dy a ha
  have d2 := hV.dy b hb
  have m1 := hV.mi a ha
  have m2 := hV.mi b hb
  have td := hV.td
  have ha3 : f_X12_of M (nI a) 3 = some (nI (V.dy a)) := by rw [← hM.dy a ha]; exact m_of (by omega) (by decide)
  have hb3 : f_X12_of M (nI b) 3 = some (nI (V.dy b)) := by rw [← hM.dy b hb]; exact m_of (by omega) (by decide)
  have ha4 : f_X12_of M (nI a) 4 = some (nI (V.mi a)) := by rw [← hM.mi a ha]; exact m_of (by omega) (by decide)
  have hb4 : f_X12_of M (nI b) 4 = some (nI (V.mi b)) := by rw [← hM.mi b hb]; exact m_of (by omega) (by decide)
  unfold f_X12_isAhead vAhead
  simp only [ha3, hb3, ha4, hb4, bp_some, ite_nle, nI_eq (show V.dy a < 2 ^ 31 by omega) (show V.dy b < 2 ^ 31 by omega), nI_eq (show V.mi a < 2 ^ 31 by omega) (show V.mi b < 2 ^ 31 by omega), nI_ltI (show V.dy a < 2 ^ 31 by omega) (show V.dy b < 2 ^ 31 by omega), nI_ltI (show V.mi a < 2 ^ 31 by omega) (show V.mi b < 2 ^ 31 by omega), nI_ltI (show a < 2 ^ 31 by omega) (show b < 2 ^ 31 by omega)]
  by_cases c1 : V.dy a = V.dy b
  · by_cases c2 : V.mi a = V.mi b
    · simp [c1, c2]
    · simp [c1, c2]
  · simp [c1]
theorem c_ahead {V : VW} {S : CS} (hV : VOK V) (hS : tC V S) {a b : Nat} (ha : a < V.n) (hb : b < V.n) : f_X1_isAhead S (nI a) (nI b) = some (vAhead V a b) := by
  have h60 := hV.n
  have d1 := hV.dy a ha
  have d2 := hV.dy b hb
  have m1 := hV.mi a ha
  have m2 := hV.mi b hb
  have td := hV.td
  unfold f_X1_isAhead vAhead
  simp only [chk_nI (show a < 60 by omega) (by decide), chk_nI (show b < 60 by omega) (by decide), nI_clamp (show a < 2 ^ 31 by omega), nI_clamp (show b < 2 ^ 31 by omega), hS.dy a ha, hS.dy b hb, hS.mi a ha, hS.mi b hb, ite_nle, nI_eq (show V.dy a < 2 ^ 31 by omega) (show V.dy b < 2 ^ 31 by omega), nI_eq (show V.mi a < 2 ^ 31 by omega) (show V.mi b < 2 ^ 31 by omega), nI_ltI (show V.dy a < 2 ^ 31 by omega) (show V.dy b < 2 ^ 31 by omega), nI_ltI (show V.mi a < 2 ^ 31 by omega) (show V.mi b < 2 ^ 31 by omega), nI_ltI (show a < 2 ^ 31 by omega) (show b < 2 ^ 31 by omega)]
  by_cases c1 : V.dy a = V.dy b
  · by_cases c2 : V.mi a = V.mi b
    · simp [c1, c2]
    · simp [c1, c2]
  · simp [c1]
theorem c_better {V : VW} {S : CS} (hV : VOK V) (hS : tC V S) {a b : Nat} (ha : a < V.n) (hb : b < V.n) : f_X1_isBetter S (nI a) (nI b) = some (vBetM V a b) := by
  have h60 := hV.n
  have he := hV.ev a ha
  have h6 := hV.ne
  have v1 := hV.va a ha
  have v2 := hV.va b hb
  have e01 := hV.e0 _ he
  have k1 : ∀ {x y : Nat}, x ≤ 1000000 → y ≤ 1000000 → (nI x - nI y ≤ 0) = (x ≤ y) := by
    intro x y hx hy
    rw [Int32.le_iff_toInt_le, pk_sub_toInt (by omega) (by omega), show (0 : Int32).toInt = 0 from rfl]
    exact propext ⟨fun h => by omega, fun h => by omega⟩
  unfold f_X1_isBetter f_X1_gainOver f_X1_isMoreBetter vBetM vBet
  simp only [chk_nI (show a < 60 by omega) (by decide), chk_nI (show b < 60 by omega) (by decide), nI_clamp (show a < 2 ^ 31 by omega), nI_clamp (show b < 2 ^ 31 by omega), hS.ev a ha, hS.va a ha, hS.va b hb, chk_nI (show V.ev a < 6 by omega) (by decide), nI_clamp (show V.ev a < 2 ^ 31 by omega), hS.e0 _ he, nI_ltI (show V.va a < 2 ^ 31 by omega) (show V.va b < 2 ^ 31 by omega), nI_ltI (show V.va b < 2 ^ 31 by omega) (show V.va a < 2 ^ 31 by omega)]
  rcases e01 with c | c
  · rw [c]
    simp only [show ¬ ((0 : Int32) = 1) by decide, if_false, bp_some, Bool.false_eq_true, if_true, k1 v2.2 v1.2]
    by_cases c2 : V.va b ≤ V.va a
    · rw [if_pos c2, decide_eq_false (by omega)]
    · rw [if_neg c2, decide_eq_true (by omega)]
  · rw [c]
    simp only [show ¬ ((1 : Int32) = 0) by decide, if_false, bp_some, if_true, k1 v1.2 v2.2]
    by_cases c2 : V.va a ≤ V.va b
    · rw [if_pos c2, decide_eq_false (by omega)]
    · rw [if_neg c2, decide_eq_true (by omega)]
