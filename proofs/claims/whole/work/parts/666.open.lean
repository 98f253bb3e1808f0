/-! the class opens an item -/
theorem isF_x {x : Int32} {k m : Nat} (hx : x = nI k) (hk : k < 2 ^ 31) (hm : m < 2 ^ 31) : (if x < nI m then some false else some true) = some (decide (¬ k < m)) := by
  subst hx
  by_cases c : k < m
  · rw [if_pos ((nI_ltI hk hm).mpr c), decide_eq_false (fun z => z c)]
  · rw [if_neg (fun z => c ((nI_ltI hk hm).mp z)), decide_eq_true c]
theorem c_isFull {V : VW} {S : CS} {c : Nat} (hV : VOK V) (h : tC V S) (hc : c < 4) : f_X1_isFull S (nI c) = some (decide (¬ cnt V c < mx c)) := by
  have h1 := hV.ne
  have h2 := hV.np
  have h3 := hV.na
  have h4 := hV.n
  unfold f_X1_isFull f_X8_isFull_pe f_X8_isFull_pp f_X8_isFull_pa
  match c, hc with
  | 0, _ =>
    rw [if_pos (show nI 0 = 0 from rfl), bp_id]
    exact isF_x (k := V.ne) (m := 6) h.ne (by omega) (by decide)
  | 1, _ =>
    rw [if_neg (show ¬ nI 1 = 0 by decide), if_pos (show nI 1 = 1 from rfl), bp_id]
    exact isF_x (k := V.np) (m := 8) h.np (by omega) (by decide)
  | 2, _ =>
    rw [if_neg (show ¬ nI 2 = 0 by decide), if_neg (show ¬ nI 2 = 1 by decide), if_pos (show nI 2 = 2 from rfl), bp_id]
    exact isF_x (k := V.na) (m := 16) h.na (by omega) (by decide)
  | 3, _ =>
    rw [if_neg (show ¬ nI 3 = 0 by decide), if_neg (show ¬ nI 3 = 1 by decide), if_neg (show ¬ nI 3 = 2 by decide)]
    exact isF_x (k := V.n) (m := 60) h.n (by omega) (by decide)
