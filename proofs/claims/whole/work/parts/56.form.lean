/-! formulas: what they come to, on both sides -/
def vthing (V : VW) (k : Nat) (p s : Int32) : Int32 :=
  if s = 98 then V.e0 (V.ev k) else if s = 100 then nI (V.dy k) else if s = 101 then nI (V.ev k) else if s = 103 then vAge V k else if s = 104 then V.p1 (V.pl k) else if s = 108 then V.e1 (V.ev k) else if s = 109 then nI (V.mi k) else if s = 115 then V.sh k else if s = 118 then nI (V.va k) else if s = 119 then V.wi k else (p >>> ((s - 120) &&& 31)) &&& 1
theorem c_thing {V : VW} {S : CS} (hV : VOK V) (hS : tC V S) {k : Nat} (hk : k < V.n) (p s : Int32) : f_X1_thingOf S (nI k) s p = some (vthing V k p s) := by
  have kb := vk hV hk
  unfold f_X1_thingOf vthing
  simp only [jn0, chk_nI (show k < 60 by omega) (by decide), nI_clamp (show k < 2 ^ 31 by omega), hS.ev k hk, hS.dy k hk, hS.pl k hk, hS.mi k hk, hS.sh k hk, hS.va k hk, hS.wi k hk, chk_nI (show V.ev k < 6 by omega) (by decide), nI_clamp (show V.ev k < 2 ^ 31 by omega), chk_nI (show V.pl k < 8 by omega) (by decide), nI_clamp (show V.pl k < 2 ^ 31 by omega), hS.e0 _ kb.2.2.2.2.2.1, hS.e1 _ kb.2.2.2.2.2.1, hS.p1 _ kb.2.2.2.2.2.2.2.1, c_age hV hS hk, bp_some]
  repeat' split
  all_goals rfl
theorem m_ev0 {V : VW} {M : MS} (hV : VOK V) (hR : tR V (M.2 0)) {k : Nat} (hk : k < V.n) : f_X12_eventOf M (nI k) 0 = some (V.e0 (V.ev k)) := by
  have kb := vk hV hk
  have e1 : (5 : Int32) + 2 * nI (V.ev k) + 0 = nI (5 + 2 * V.ev k) := by rw [show (5 : Int32) = nI 5 from rfl, show (2 : Int32) = nI 2 from rfl, pk_mul, nI_add, Int32.add_zero]
  unfold f_X12_eventOf
  rw [m_o0 hV hR hk, bp_some, e1, chk_nI (by omega) (by decide), nI_clamp (by omega), hR.e0 _ kb.2.2.2.2.2.1]
theorem m_ev1 {V : VW} {M : MS} (hV : VOK V) (hR : tR V (M.2 0)) {k : Nat} (hk : k < V.n) : f_X12_eventOf M (nI k) 1 = some (V.e1 (V.ev k)) := by
  have kb := vk hV hk
  have e1 : (5 : Int32) + 2 * nI (V.ev k) + 1 = nI (5 + 2 * V.ev k + 1) := by rw [show (5 : Int32) = nI 5 from rfl, show (2 : Int32) = nI 2 from rfl, pk_mul, nI_add, nI_1]
  unfold f_X12_eventOf
  rw [m_o0 hV hR hk, bp_some, e1, chk_nI (by omega) (by decide), nI_clamp (by omega), hR.e1 _ kb.2.2.2.2.2.1]
set_option maxRecDepth 100000 in
theorem m_name {V : VW} {M : MS} (hV : VOK V) (hR : tR V (M.2 0)) {k : Nat} (hk : k < V.n) {c : Int32} (hc : c ∈ lettersL) : f_X12_nameNow M (nI k) (nmi (-c)) = some (vthing V k (nI (V.pa k)) (-c)) := by
  have kb := vk hV hk
  have e1 : (17 : Int32) + 2 * nI (V.pl k) + 1 = nI (17 + 2 * V.pl k + 1) := by rw [show (17 : Int32) = nI 17 from rfl, show (2 : Int32) = nI 2 from rfl, pk_mul, nI_add, nI_1]
  have h3 : bp (f_X12_of M (nI k) 2) (fun x4 => chk (17 + 2 * x4 + 1) 1177 (some (M.2 0 (17 + 2 * x4 + 1).toNatClampNeg))) = some (V.p1 (V.pl k)) := by
    rw [m_o2 hV hR hk, bp_some, e1, chk_nI (by omega) (by decide), nI_clamp (by omega), hR.p1 _ kb.2.2.2.2.2.2.2.1]
  unfold lettersL at hc
  simp only [List.mem_cons, List.not_mem_nil, or_false] at hc
  unfold f_X12_nameNow vthing
  simp only [h3, m_o0 hV hR hk, m_o3 hV hR hk, m_o4 hV hR hk, m_o5 hV hR hk, m_o6 hV hR hk, m_o7 hV hR hk, m_o8 hV hR hk, m_age hV hR hk, m_ev0 hV hR hk, m_ev1 hV hR hk, bp_some]
  rcases hc with rfl | rfl | rfl | rfl | rfl | rfl | rfl | rfl | rfl | rfl | rfl | rfl | rfl
  · rw [show nmi (-(-118)) = 0 from by decide, if_pos (show (0 : Int32) = 0 from rfl), if_neg (show ¬ (-(-118) : Int32) = 98 by decide), if_neg (show ¬ (-(-118) : Int32) = 100 by decide), if_neg (show ¬ (-(-118) : Int32) = 101 by decide), if_neg (show ¬ (-(-118) : Int32) = 103 by decide), if_neg (show ¬ (-(-118) : Int32) = 104 by decide), if_neg (show ¬ (-(-118) : Int32) = 108 by decide), if_neg (show ¬ (-(-118) : Int32) = 109 by decide), if_neg (show ¬ (-(-118) : Int32) = 115 by decide), if_pos (show (-(-118) : Int32) = 118 by decide)]
  · rw [show nmi (-(-119)) = 1 from by decide, if_neg (show ¬ (1 : Int32) = 0 by decide), if_pos (show (1 : Int32) = 1 from rfl), if_neg (show ¬ (-(-119) : Int32) = 98 by decide), if_neg (show ¬ (-(-119) : Int32) = 100 by decide), if_neg (show ¬ (-(-119) : Int32) = 101 by decide), if_neg (show ¬ (-(-119) : Int32) = 103 by decide), if_neg (show ¬ (-(-119) : Int32) = 104 by decide), if_neg (show ¬ (-(-119) : Int32) = 108 by decide), if_neg (show ¬ (-(-119) : Int32) = 109 by decide), if_neg (show ¬ (-(-119) : Int32) = 115 by decide), if_neg (show ¬ (-(-119) : Int32) = 118 by decide), if_pos (show (-(-119) : Int32) = 119 by decide)]
  · rw [show nmi (-(-115)) = 2 from by decide, if_neg (show ¬ (2 : Int32) = 0 by decide), if_neg (show ¬ (2 : Int32) = 1 by decide), if_pos (show (2 : Int32) = 2 from rfl), if_neg (show ¬ (-(-115) : Int32) = 98 by decide), if_neg (show ¬ (-(-115) : Int32) = 100 by decide), if_neg (show ¬ (-(-115) : Int32) = 101 by decide), if_neg (show ¬ (-(-115) : Int32) = 103 by decide), if_neg (show ¬ (-(-115) : Int32) = 104 by decide), if_neg (show ¬ (-(-115) : Int32) = 108 by decide), if_neg (show ¬ (-(-115) : Int32) = 109 by decide), if_pos (show (-(-115) : Int32) = 115 by decide)]
  · rw [show nmi (-(-104)) = 3 from by decide, if_neg (show ¬ (3 : Int32) = 0 by decide), if_neg (show ¬ (3 : Int32) = 1 by decide), if_neg (show ¬ (3 : Int32) = 2 by decide), if_pos (show (3 : Int32) = 3 from rfl), if_neg (show ¬ (-(-104) : Int32) = 98 by decide), if_neg (show ¬ (-(-104) : Int32) = 100 by decide), if_neg (show ¬ (-(-104) : Int32) = 101 by decide), if_neg (show ¬ (-(-104) : Int32) = 103 by decide), if_pos (show (-(-104) : Int32) = 104 by decide)]
  · rw [show nmi (-(-103)) = 4 from by decide, if_neg (show ¬ (4 : Int32) = 0 by decide), if_neg (show ¬ (4 : Int32) = 1 by decide), if_neg (show ¬ (4 : Int32) = 2 by decide), if_neg (show ¬ (4 : Int32) = 3 by decide), if_pos (show (4 : Int32) = 4 from rfl), if_neg (show ¬ (-(-103) : Int32) = 98 by decide), if_neg (show ¬ (-(-103) : Int32) = 100 by decide), if_neg (show ¬ (-(-103) : Int32) = 101 by decide), if_pos (show (-(-103) : Int32) = 103 by decide)]
  · rw [show nmi (-(-101)) = 5 from by decide, if_neg (show ¬ (5 : Int32) = 0 by decide), if_neg (show ¬ (5 : Int32) = 1 by decide), if_neg (show ¬ (5 : Int32) = 2 by decide), if_neg (show ¬ (5 : Int32) = 3 by decide), if_neg (show ¬ (5 : Int32) = 4 by decide), if_pos (show (5 : Int32) = 5 from rfl), if_neg (show ¬ (-(-101) : Int32) = 98 by decide), if_neg (show ¬ (-(-101) : Int32) = 100 by decide), if_pos (show (-(-101) : Int32) = 101 by decide)]
  · rw [show nmi (-(-100)) = 6 from by decide, if_neg (show ¬ (6 : Int32) = 0 by decide), if_neg (show ¬ (6 : Int32) = 1 by decide), if_neg (show ¬ (6 : Int32) = 2 by decide), if_neg (show ¬ (6 : Int32) = 3 by decide), if_neg (show ¬ (6 : Int32) = 4 by decide), if_neg (show ¬ (6 : Int32) = 5 by decide), if_pos (show (6 : Int32) = 6 from rfl), if_neg (show ¬ (-(-100) : Int32) = 98 by decide), if_pos (show (-(-100) : Int32) = 100 by decide)]
  · rw [show nmi (-(-109)) = 7 from by decide, if_neg (show ¬ (7 : Int32) = 0 by decide), if_neg (show ¬ (7 : Int32) = 1 by decide), if_neg (show ¬ (7 : Int32) = 2 by decide), if_neg (show ¬ (7 : Int32) = 3 by decide), if_neg (show ¬ (7 : Int32) = 4 by decide), if_neg (show ¬ (7 : Int32) = 5 by decide), if_neg (show ¬ (7 : Int32) = 6 by decide), if_pos (show (7 : Int32) = 7 from rfl), if_neg (show ¬ (-(-109) : Int32) = 98 by decide), if_neg (show ¬ (-(-109) : Int32) = 100 by decide), if_neg (show ¬ (-(-109) : Int32) = 101 by decide), if_neg (show ¬ (-(-109) : Int32) = 103 by decide), if_neg (show ¬ (-(-109) : Int32) = 104 by decide), if_neg (show ¬ (-(-109) : Int32) = 108 by decide), if_pos (show (-(-109) : Int32) = 109 by decide)]
  · rw [show nmi (-(-108)) = 8 from by decide, if_neg (show ¬ (8 : Int32) = 0 by decide), if_neg (show ¬ (8 : Int32) = 1 by decide), if_neg (show ¬ (8 : Int32) = 2 by decide), if_neg (show ¬ (8 : Int32) = 3 by decide), if_neg (show ¬ (8 : Int32) = 4 by decide), if_neg (show ¬ (8 : Int32) = 5 by decide), if_neg (show ¬ (8 : Int32) = 6 by decide), if_neg (show ¬ (8 : Int32) = 7 by decide), if_pos (show (8 : Int32) = 8 from rfl), if_neg (show ¬ (-(-108) : Int32) = 98 by decide), if_neg (show ¬ (-(-108) : Int32) = 100 by decide), if_neg (show ¬ (-(-108) : Int32) = 101 by decide), if_neg (show ¬ (-(-108) : Int32) = 103 by decide), if_neg (show ¬ (-(-108) : Int32) = 104 by decide), if_pos (show (-(-108) : Int32) = 108 by decide)]
  · rw [show nmi (-(-98)) = 9 from by decide, if_neg (show ¬ (9 : Int32) = 0 by decide), if_neg (show ¬ (9 : Int32) = 1 by decide), if_neg (show ¬ (9 : Int32) = 2 by decide), if_neg (show ¬ (9 : Int32) = 3 by decide), if_neg (show ¬ (9 : Int32) = 4 by decide), if_neg (show ¬ (9 : Int32) = 5 by decide), if_neg (show ¬ (9 : Int32) = 6 by decide), if_neg (show ¬ (9 : Int32) = 7 by decide), if_neg (show ¬ (9 : Int32) = 8 by decide), if_pos (show (9 : Int32) = 9 from rfl), if_pos (show (-(-98) : Int32) = 98 by decide)]
  · rw [show nmi (-(-120)) = 10 from by decide, if_neg (show ¬ (10 : Int32) = 0 by decide), if_neg (show ¬ (10 : Int32) = 1 by decide), if_neg (show ¬ (10 : Int32) = 2 by decide), if_neg (show ¬ (10 : Int32) = 3 by decide), if_neg (show ¬ (10 : Int32) = 4 by decide), if_neg (show ¬ (10 : Int32) = 5 by decide), if_neg (show ¬ (10 : Int32) = 6 by decide), if_neg (show ¬ (10 : Int32) = 7 by decide), if_neg (show ¬ (10 : Int32) = 8 by decide), if_neg (show ¬ (10 : Int32) = 9 by decide), if_neg (show ¬ (-(-120) : Int32) = 98 by decide), if_neg (show ¬ (-(-120) : Int32) = 100 by decide), if_neg (show ¬ (-(-120) : Int32) = 101 by decide), if_neg (show ¬ (-(-120) : Int32) = 103 by decide), if_neg (show ¬ (-(-120) : Int32) = 104 by decide), if_neg (show ¬ (-(-120) : Int32) = 108 by decide), if_neg (show ¬ (-(-120) : Int32) = 109 by decide), if_neg (show ¬ (-(-120) : Int32) = 115 by decide), if_neg (show ¬ (-(-120) : Int32) = 118 by decide), if_neg (show ¬ (-(-120) : Int32) = 119 by decide), show ((10 : Int32) - 10) &&& 31 = ((-(-120) : Int32) - 120) &&& 31 by decide]
  · rw [show nmi (-(-121)) = 11 from by decide, if_neg (show ¬ (11 : Int32) = 0 by decide), if_neg (show ¬ (11 : Int32) = 1 by decide), if_neg (show ¬ (11 : Int32) = 2 by decide), if_neg (show ¬ (11 : Int32) = 3 by decide), if_neg (show ¬ (11 : Int32) = 4 by decide), if_neg (show ¬ (11 : Int32) = 5 by decide), if_neg (show ¬ (11 : Int32) = 6 by decide), if_neg (show ¬ (11 : Int32) = 7 by decide), if_neg (show ¬ (11 : Int32) = 8 by decide), if_neg (show ¬ (11 : Int32) = 9 by decide), if_neg (show ¬ (-(-121) : Int32) = 98 by decide), if_neg (show ¬ (-(-121) : Int32) = 100 by decide), if_neg (show ¬ (-(-121) : Int32) = 101 by decide), if_neg (show ¬ (-(-121) : Int32) = 103 by decide), if_neg (show ¬ (-(-121) : Int32) = 104 by decide), if_neg (show ¬ (-(-121) : Int32) = 108 by decide), if_neg (show ¬ (-(-121) : Int32) = 109 by decide), if_neg (show ¬ (-(-121) : Int32) = 115 by decide), if_neg (show ¬ (-(-121) : Int32) = 118 by decide), if_neg (show ¬ (-(-121) : Int32) = 119 by decide), show ((11 : Int32) - 10) &&& 31 = ((-(-121) : Int32) - 120) &&& 31 by decide]
  · rw [show nmi (-(-122)) = 12 from by decide, if_neg (show ¬ (12 : Int32) = 0 by decide), if_neg (show ¬ (12 : Int32) = 1 by decide), if_neg (show ¬ (12 : Int32) = 2 by decide), if_neg (show ¬ (12 : Int32) = 3 by decide), if_neg (show ¬ (12 : Int32) = 4 by decide), if_neg (show ¬ (12 : Int32) = 5 by decide), if_neg (show ¬ (12 : Int32) = 6 by decide), if_neg (show ¬ (12 : Int32) = 7 by decide), if_neg (show ¬ (12 : Int32) = 8 by decide), if_neg (show ¬ (12 : Int32) = 9 by decide), if_neg (show ¬ (-(-122) : Int32) = 98 by decide), if_neg (show ¬ (-(-122) : Int32) = 100 by decide), if_neg (show ¬ (-(-122) : Int32) = 101 by decide), if_neg (show ¬ (-(-122) : Int32) = 103 by decide), if_neg (show ¬ (-(-122) : Int32) = 104 by decide), if_neg (show ¬ (-(-122) : Int32) = 108 by decide), if_neg (show ¬ (-(-122) : Int32) = 109 by decide), if_neg (show ¬ (-(-122) : Int32) = 115 by decide), if_neg (show ¬ (-(-122) : Int32) = 118 by decide), if_neg (show ¬ (-(-122) : Int32) = 119 by decide), show ((12 : Int32) - 10) &&& 31 = ((-(-122) : Int32) - 120) &&& 31 by decide]
def jo (s x y : Int32) : Int32 := (f_X4_joined s x y).getD 0
theorem jo_c (s x y : Int32) : f_X4_joined s x y = some (jo s x y) := by
  unfold jo f_X4_joined nz jn0
  by_cases c1 : s = 38
  · simp only [if_pos c1]; rfl
  · by_cases c2 : s = 42
    · simp only [if_neg c1, if_pos c2]; rfl
    · by_cases c3 : s = 43
      · simp only [if_neg c1, if_neg c2, if_pos c3]; rfl
      · by_cases c4 : s = 45
        · simp only [if_neg c1, if_neg c2, if_neg c3, if_pos c4]; rfl
        · by_cases c5 : s = 47
          · simp only [if_neg c1, if_neg c2, if_neg c3, if_neg c4, if_pos c5]
            by_cases z : y = 0
            · simp only [if_pos z]; rfl
            · simp only [if_neg z]; rfl
          · simp only [if_neg c1, if_neg c2, if_neg c3, if_neg c4, if_neg c5]
            by_cases c6 : s = 60
            · simp only [if_pos c6]
              split <;> rfl
            · by_cases c7 : s = 61
              · simp only [if_neg c6, if_pos c7]
                split <;> rfl
              · by_cases c8 : s = 62
                · simp only [if_neg c6, if_neg c7, if_pos c8]
                  split <;> rfl
                · simp only [if_neg c6, if_neg c7, if_neg c8]; rfl
theorem jo_m (s x y : Int32) : f_X12_joined s x y = some (jo s x y) := jo_c s x y
def ev1 (V : VW) (k : Nat) (p : Int32) (st : List Int32) (c : Int32) : List Int32 :=
  if 0 ≤ c.toInt then c :: st
  else if c ∈ lettersL then vthing V k p (-c) :: st
  else if c = -33 then (match st with | x :: r => (if x = 0 then 1 else 0) :: r | _ => [])
  else (match st with | y :: x :: r => jo (-c) x y :: r | _ => [])
def tyR : List Bool → List Int32 → Prop
  | [], [] => True
  | b :: bs, x :: xs => (b = true → x = 0 ∨ x = 1) ∧ tyR bs xs
  | _, _ => False
theorem tyR_len : ∀ {ts : List Bool} {st : List Int32}, tyR ts st → ts.length = st.length := by
  intro ts
  induction ts with
  | nil => intro st h; cases st with
    | nil => rfl
    | cons x xs => exact absurd h (by unfold tyR; exact id)
  | cons b bs ih => intro st h; cases st with
    | nil => exact absurd h (by unfold tyR; exact id)
    | cons x xs => rw [List.length_cons, List.length_cons, ih h.2]
/-- the ways a typed token can go -/
theorem ty1_c {ts ts' : List Bool} {c : Int32} (h : ty1 ts c = some ts') : (0 ≤ c.toInt ∧ c.toInt ≤ 9999999 ∧ ts.length < 60 ∧ ts' = false :: ts) ∨ (¬ 0 ≤ c.toInt ∧ c ∈ lettersL ∧ ts.length < 60 ∧ ts' = false :: ts) ∨ (c = -33 ∧ ∃ r, ts = true :: r ∧ ts' = true :: r) ∨ ((c = -38 ∨ c = -124) ∧ ∃ r, ts = true :: true :: r ∧ ts' = true :: r) ∨ ((c = -60 ∨ c = -61 ∨ c = -62) ∧ ∃ a b r, ts = a :: b :: r ∧ ts' = true :: r) ∨ ((c = -42 ∨ c = -43 ∨ c = -45 ∨ c = -47) ∧ ∃ a b r, ts = a :: b :: r ∧ ts' = false :: r) := by
  unfold ty1 at h
  by_cases c0 : 0 ≤ c.toInt
  · rw [if_pos c0] at h
    by_cases z : c.toInt ≤ 9999999 ∧ ts.length < 60
    · rw [if_pos z] at h; exact Or.inl ⟨c0, z.1, z.2, (Option.some.inj h).symm⟩
    · rw [if_neg z] at h; cases h
  · rw [if_neg c0] at h
    by_cases c1 : c ∈ lettersL
    · rw [if_pos c1] at h
      by_cases z : ts.length < 60
      · rw [if_pos z] at h; exact Or.inr (Or.inl ⟨c0, c1, z, (Option.some.inj h).symm⟩)
      · rw [if_neg z] at h; cases h
    · rw [if_neg c1] at h
      by_cases c2 : c = -33
      · rw [if_pos c2] at h
        match ts, h with
        | true :: r, h => exact Or.inr (Or.inr (Or.inl ⟨c2, r, rfl, (Option.some.inj h).symm⟩))
      · rw [if_neg c2] at h
        by_cases c3 : c = -38 ∨ c = -124
        · rw [if_pos c3] at h
          match ts, h with
          | true :: true :: r, h => exact Or.inr (Or.inr (Or.inr (Or.inl ⟨c3, r, rfl, (Option.some.inj h).symm⟩)))
        · rw [if_neg c3] at h
          by_cases c4 : c = -60 ∨ c = -61 ∨ c = -62
          · rw [if_pos c4] at h
            match ts, h with
            | a :: b :: r, h => exact Or.inr (Or.inr (Or.inr (Or.inr (Or.inl ⟨c4, a, b, r, rfl, (Option.some.inj h).symm⟩))))
          · rw [if_neg c4] at h
            by_cases c5 : c = -42 ∨ c = -43 ∨ c = -45 ∨ c = -47
            · rw [if_pos c5] at h
              match ts, h with
              | a :: b :: r, h => exact Or.inr (Or.inr (Or.inr (Or.inr (Or.inr ⟨c5, a, b, r, rfl, (Option.some.inj h).symm⟩))))
            · rw [if_neg c5] at h; cases h
theorem tyR_1 {b : Bool} {bs : List Bool} {st : List Int32} (h : tyR (b :: bs) st) : ∃ x xs, st = x :: xs ∧ (b = true → x = 0 ∨ x = 1) ∧ tyR bs xs := by
  cases st with
  | nil => exact absurd h (by unfold tyR; exact id)
  | cons x xs => exact ⟨x, xs, rfl, h.1, h.2⟩
theorem jo_01 {s x y : Int32} (h : s = 60 ∨ s = 61 ∨ s = 62) : jo s x y = 0 ∨ jo s x y = 1 := by
  rcases h with rfl | rfl | rfl
  · unfold jo f_X4_joined jn0
    dsimp only
    rw [if_neg (show ¬ (60 : Int32) = 38 by decide), if_neg (show ¬ (60 : Int32) = 42 by decide), if_neg (show ¬ (60 : Int32) = 43 by decide), if_neg (show ¬ (60 : Int32) = 45 by decide), if_neg (show ¬ (60 : Int32) = 47 by decide), if_pos (show (60 : Int32) = 60 from rfl)]
    split
    · exact Or.inl rfl
    · exact Or.inr rfl
  · unfold jo f_X4_joined jn0
    dsimp only
    rw [if_neg (show ¬ (61 : Int32) = 38 by decide), if_neg (show ¬ (61 : Int32) = 42 by decide), if_neg (show ¬ (61 : Int32) = 43 by decide), if_neg (show ¬ (61 : Int32) = 45 by decide), if_neg (show ¬ (61 : Int32) = 47 by decide), if_neg (show ¬ (61 : Int32) = 60 by decide), if_pos (show (61 : Int32) = 61 from rfl)]
    split
    · exact Or.inr rfl
    · exact Or.inl rfl
  · unfold jo f_X4_joined jn0
    dsimp only
    rw [if_neg (show ¬ (62 : Int32) = 38 by decide), if_neg (show ¬ (62 : Int32) = 42 by decide), if_neg (show ¬ (62 : Int32) = 43 by decide), if_neg (show ¬ (62 : Int32) = 45 by decide), if_neg (show ¬ (62 : Int32) = 47 by decide), if_neg (show ¬ (62 : Int32) = 60 by decide), if_neg (show ¬ (62 : Int32) = 61 by decide), if_pos (show (62 : Int32) = 62 from rfl)]
    split
    · exact Or.inl rfl
    · exact Or.inr rfl
theorem jo_ao {s x y : Int32} (h : s = 38 ∨ s = 124) (hx : x = 0 ∨ x = 1) (hy : y = 0 ∨ y = 1) : jo s x y = 0 ∨ jo s x y = 1 := by
  rcases h with rfl | rfl <;> rcases hx with rfl | rfl <;> rcases hy with rfl | rfl <;> decide
theorem ty_step {V : VW} {k : Nat} {p c : Int32} {ts ts' : List Bool} {st : List Int32} (h : ty1 ts c = some ts') (hr : tyR ts st) : tyR ts' (ev1 V k p st c) := by
  rcases ty1_c h with ⟨h0, h1, h2, rfl⟩ | ⟨h0, h1, h2, rfl⟩ | ⟨rfl, r, rfl, rfl⟩ | ⟨hc, r, rfl, rfl⟩ | ⟨hc, a, b, r, rfl, rfl⟩ | ⟨hc, a, b, r, rfl, rfl⟩
  · unfold ev1; rw [if_pos h0]; exact ⟨fun z => (by cases z), hr⟩
  · unfold ev1; rw [if_neg h0, if_pos h1]; exact ⟨fun z => (by cases z), hr⟩
  · obtain ⟨x, xs, rfl, h1, h2⟩ := tyR_1 hr
    unfold ev1
    rw [if_neg (by decide), if_neg (by decide), if_pos rfl]
    refine ⟨fun _ => ?_, h2⟩
    split
    · exact Or.inr rfl
    · exact Or.inl rfl
  · obtain ⟨y, ys, rfl, h1, h2⟩ := tyR_1 hr
    obtain ⟨x, xs, rfl, h3, h4⟩ := tyR_1 h2
    rcases hc with rfl | rfl
    · unfold ev1
      rw [if_neg (by decide), if_neg (by decide), if_neg (by decide)]
      exact ⟨fun _ => jo_ao (Or.inl (by decide)) (h3 rfl) (h1 rfl), h4⟩
    · unfold ev1
      rw [if_neg (by decide), if_neg (by decide), if_neg (by decide)]
      exact ⟨fun _ => jo_ao (Or.inr (by decide)) (h3 rfl) (h1 rfl), h4⟩
  · obtain ⟨y, ys, rfl, h1, h2⟩ := tyR_1 hr
    obtain ⟨x, xs, rfl, h3, h4⟩ := tyR_1 h2
    rcases hc with rfl | rfl | rfl
    all_goals
      unfold ev1
      rw [if_neg (by decide), if_neg (by decide), if_neg (by decide)]
      exact ⟨fun _ => jo_01 (by decide), h4⟩
  · obtain ⟨y, ys, rfl, h1, h2⟩ := tyR_1 hr
    obtain ⟨x, xs, rfl, h3, h4⟩ := tyR_1 h2
    rcases hc with rfl | rfl | rfl | rfl
    all_goals
      unfold ev1
      rw [if_neg (by decide), if_neg (by decide), if_neg (by decide)]
      exact ⟨fun z => (by cases z), h4⟩
/-- an array holds a pile, its bottom at 0 -/
def stk (f : Nat → Int32) (st : List Int32) : Prop := ∀ i, i < st.length → f i = st.getD (st.length - 1 - i) 0
theorem stk_push {f : Nat → Int32} {st : List Int32} {x : Int32} (h : stk f st) : stk (upd f st.length x) (x :: st) := by
  intro i hi
  rw [List.length_cons] at hi ⊢
  by_cases z : i = st.length
  · subst z; rw [pk_us, show st.length + 1 - 1 - st.length = 0 by omega]; rfl
  · rw [pk_un z, h i (by omega)]
    obtain ⟨j, hj⟩ : ∃ j, st.length + 1 - 1 - i = j + 1 := ⟨st.length - 1 - i, by omega⟩
    rw [hj, show st.length - 1 - i = j by omega]; rfl
theorem stk_top {f : Nat → Int32} {st : List Int32} {x : Int32} (h : stk f (x :: st)) : f st.length = x := by
  rw [h st.length (by rw [List.length_cons]; omega), List.length_cons, show st.length + 1 - 1 - st.length = 0 by omega]; rfl
theorem stk_pop {f : Nat → Int32} {st : List Int32} {x : Int32} (h : stk f (x :: st)) : stk f st := by
  intro i hi
  rw [h i (by rw [List.length_cons]; omega), List.length_cons]
  obtain ⟨j, hj⟩ : ∃ j, st.length + 1 - 1 - i = j + 1 := ⟨st.length - 1 - i, by omega⟩
  rw [hj, show st.length - 1 - i = j by omega]; rfl
def tk (cs : List Int32) (b e : Nat) : List Int32 := (cs.drop b).take (e - b)
theorem tk_cons {cs : List Int32} {b e : Nat} (h : b < e) (he : e ≤ cs.length) : tk cs b e = cs.getD b 0 :: tk cs (b + 1) e := by
  unfold tk
  rw [List.drop_eq_getElem_cons (show b < cs.length by omega), show e - b = (e - (b + 1)) + 1 by omega, List.take_succ_cons, List.getD_eq_getElem?_getD, List.getElem?_eq_getElem (show b < cs.length by omega)]; rfl
theorem tk_nil {cs : List Int32} {e : Nat} : tk cs e e = [] := by unfold tk; rw [Nat.sub_self]; rfl
def fval (V : VW) (k : Nat) (p : Int32) (cs : List Int32) (b e : Nat) : Int32 := ((tk cs b e).foldl (ev1 V k p) []).getD 0 0
theorem neg_neg (c : Int32) : - -c = c := Int32.neg_neg
theorem c_pop_nf {S : CS} {st : List Int32} {x : Int32} (h : S.1 24 = nI (st.length + 1)) (h60 : st.length < 60) (hs : stk (S.2.1 48) (x :: st)) : f_X4_pop_nf S = some (x, ci S 24 (nI st.length)) := by
  unfold f_X4_pop_nf
  rw [h, if_pos (by rw [show (0 : Int32) = nI 0 from rfl, nI_ltI (by omega) (by omega)]; omega), nI_pred, lt_eq]
  have e : (ci S 24 (nI st.length)).1 24 = nI st.length := rfl
  rw [e, chk_nI h60 (by decide), nI_clamp (by omega)]
  have : (ci S 24 (nI st.length)).2.1 48 st.length = x := stk_top hs
  rw [this]
theorem c_push_nf {S : CS} {n : Nat} (h : S.1 24 = nI n) (h60 : n < 60) (x : Int32) : f_X4_push_nf S x = some (ci (ca S 48 (upd (S.2.1 48) n x)) 24 (nI (n + 1))) := by
  unfold f_X4_push_nf
  rw [h, if_neg (fun h => by rw [show (60 : Int32) = nI 60 from rfl, nI_leI (by omega) (by omega)] at h; omega), chk_nI h60 (by decide), nI_clamp (by omega), lt_eq, lt_eq]
  have e : (ca S 48 (upd (S.2.1 48) n x)).1 24 = nI n := h
  rw [e, nI_1]
theorem c_val_nf {V : VW} {S : CS} {es : List Nat} {cs : List Int32} {pt k : Nat} {p : Int32} {fb : Bool} (hV : VOK V) (hS : tC V S) (hk : k < V.n) (hl : S.2.2 47 = es.length) (hes : ∀ i, i < es.length → S.2.1 47 i = nI (es.getD i 0)) (hcl : S.2.2 46 = cs.length) (hcs : ∀ i, i < cs.length → S.2.1 46 i = cs.getD i 0) (h8 : es.length ≤ 8) (h310 : cs.length ≤ 310) (hpt : pt < es.length) (hb : bgn es pt ≤ es.getD pt 0 ∧ es.getD pt 0 ≤ cs.length) (ht : tyL (tk cs (bgn es pt) (es.getD pt 0)) [] = some [fb]) : ∃ S', f_X4_valueOf_nf S (nI pt) (nI k) p = some (fval V k p cs (bgn es pt) (es.getD pt 0), S') ∧ gI [24] [48] S S' := by
  unfold f_X4_valueOf_nf L_X4_valueOf_nf_38
  rw [hl, if_neg (nI_pos (by omega)), if_pos ((nI_ltI (by omega) (by omega)).mpr hpt), lt_eq]
  have hbg : (jn1 (fun (x2 : Int32) => lo2 (fun rec5 S4 x3 => chk (nI pt) (S4.2.2 47) ( (if (S4.2.1 47 (nI pt).toNatClampNeg) ≤ x3 then bw (f_X4_pop_nf S4) (fun x32 S33 => some (x32, S33)) else (if (nI (S4.2.2 46)) ≤ x3 then bw (f_X4_pop_nf S4) (fun x32 S33 => some (x32, S33)) else chk x3 (S4.2.2 46) ( lt (-(S4.2.1 46 x3.toNatClampNeg)) fun x9 => (if 0 < x9 then jn0 ((if x9 = 33 then bw (f_X4_pop_nf S4) (fun x17 S18 => (if x17 = 0 then bp (f_X4_push_nf S18 1) (fun S21 => lt (x3 + 1) fun x22 => rec5 S21 x22) else bp (f_X4_push_nf S18 0) (fun S19 => lt (x3 + 1) fun x20 => rec5 S19 x20))) else bw (f_X4_pop_nf S4) (fun x10 S11 => bw (f_X4_pop_nf S11) (fun x12 S13 => bp (f_X4_joined x9 x12 x10) (fun x14 => bp (f_X4_push_nf S13 x14) (fun S15 => lt (x3 + 1) fun x16 => rec5 S15 x16)))))) (fun k23 => (if x9 < 97 then k23 else (if 122 < x9 then k23 else bp (f_X1_thingOf S4 (nI k) x9 p) (fun x25 => bp (f_X4_push_nf S4 x25) (fun S26 => lt (x3 + 1) fun x27 => rec5 S26 x27))))) else chk x3 (S4.2.2 46) ( bp (f_X4_push_nf S4 (S4.2.1 46 x3.toNatClampNeg)) (fun S28 => lt (x3 + 1) fun x29 => rec5 S28 x29)))))))) FU (ci S 24 0) x2) (fun k34 => if nI pt = 0 then k34 0 else chk (nI pt - 1) ((ci S 24 0).2.2 47) (k34 ((ci S 24 0).2.1 47 (nI pt - 1).toNatClampNeg)))) = lo2 (fun rec5 S4 x3 => chk (nI pt) (S4.2.2 47) ( (if (S4.2.1 47 (nI pt).toNatClampNeg) ≤ x3 then bw (f_X4_pop_nf S4) (fun x32 S33 => some (x32, S33)) else (if (nI (S4.2.2 46)) ≤ x3 then bw (f_X4_pop_nf S4) (fun x32 S33 => some (x32, S33)) else chk x3 (S4.2.2 46) ( lt (-(S4.2.1 46 x3.toNatClampNeg)) fun x9 => (if 0 < x9 then jn0 ((if x9 = 33 then bw (f_X4_pop_nf S4) (fun x17 S18 => (if x17 = 0 then bp (f_X4_push_nf S18 1) (fun S21 => lt (x3 + 1) fun x22 => rec5 S21 x22) else bp (f_X4_push_nf S18 0) (fun S19 => lt (x3 + 1) fun x20 => rec5 S19 x20))) else bw (f_X4_pop_nf S4) (fun x10 S11 => bw (f_X4_pop_nf S11) (fun x12 S13 => bp (f_X4_joined x9 x12 x10) (fun x14 => bp (f_X4_push_nf S13 x14) (fun S15 => lt (x3 + 1) fun x16 => rec5 S15 x16)))))) (fun k23 => (if x9 < 97 then k23 else (if 122 < x9 then k23 else bp (f_X1_thingOf S4 (nI k) x9 p) (fun x25 => bp (f_X4_push_nf S4 x25) (fun S26 => lt (x3 + 1) fun x27 => rec5 S26 x27))))) else chk x3 (S4.2.2 46) ( bp (f_X4_push_nf S4 (S4.2.1 46 x3.toNatClampNeg)) (fun S28 => lt (x3 + 1) fun x29 => rec5 S28 x29)))))))) FU (ci S 24 0) (nI (bgn es pt)) := by
    unfold jn1 bgn
    dsimp only
    have e2 : (ci S 24 0).2.2 47 = es.length := hl
    cases pt with
    | zero => rw [if_pos (show nI 0 = 0 from rfl), if_pos rfl]; rfl
    | succ j =>
      have e3 : (ci S 24 0).2.1 47 j = nI (es.getD j 0) := hes j (by omega)
      rw [if_neg (nI_ne0 (by omega) (by omega)), if_neg (by omega), nI_pred, e2, chk_nI (by omega) (by omega), nI_clamp (show j < 2 ^ 31 by omega), e3]; rfl
  rw [hbg]
  have hR : ∃ v, (tk cs (bgn es pt) (es.getD pt 0)).foldl (ev1 V k p) [] = [v] ∨ True := ⟨0, Or.inr trivial⟩
  refine lq2 (Q := fun o => ∃ S', o = some (fval V k p cs (bgn es pt) (es.getD pt 0), S') ∧ gI [24] [48] S S') (es.getD pt 0) (fun i S1 => gI [24] [48] S S1 ∧ ∃ st ts, S1.1 24 = nI st.length ∧ stk (S1.2.1 48) st ∧ tyR ts st ∧ st.length ≤ 60 ∧ tyL (tk cs i (es.getD pt 0)) ts = some [fb] ∧ (tk cs i (es.getD pt 0)).foldl (ev1 V k p) st = (tk cs (bgn es pt) (es.getD pt 0)).foldl (ev1 V k p) []) ?_ (bgn es pt) rfl hb.1 (FU_gt (by omega)) ⟨gI_ci gI_rf (by decide), [], [], rfl, fun i h => (by cases h), trivial, by decide, ht, rfl⟩
  rintro i S1 kk hi ⟨hg, st, ts, g1, g2, g3, g4, g5, g6⟩ hr
  have hS1 : tC V S1 := tC_gI hS hg (by decide) (by decide)
  have el : S1.2.2 = S.2.2 := hg.2.2
  have eE : S1.2.1 47 = S.2.1 47 := hg.2.1 47 (by decide)
  have eC : S1.2.1 46 = S.2.1 46 := hg.2.1 46 (by decide)
  rw [el, hl, chk_nI hpt (by omega), nI_clamp (by omega), eE, hes pt hpt, hcl]
  by_cases c : i < es.getD pt 0
  · have hic : i < cs.length := by omega
    have hr := fun a h1 h2 => hr a c ⟨h1, h2⟩
    rw [if_neg (fun h => by rw [nI_leI (by omega) (by omega)] at h; omega), if_neg (fun h => by rw [nI_leI (by omega) (by omega)] at h; omega), chk_nI hic (by omega), nI_clamp (by omega), eC, hcs i hic, lt_eq]
    rw [tk_cons c hb.2] at g5 g6
    rw [List.foldl_cons] at g6
    generalize cs.getD i 0 = cc at g5 g6
    have hty : ∃ ts', ty1 ts cc = some ts' ∧ tyL (tk cs (i + 1) (es.getD pt 0)) ts' = some [fb] := by
      unfold tyL at g5
      cases hz : ty1 ts cc with
      | none => rw [hz] at g5; cases g5
      | some ts' => rw [hz] at g5; exact ⟨ts', rfl, g5⟩
    obtain ⟨ts', q1, q2⟩ := hty
    have q3 := ty_step (V := V) (k := k) (p := p) q1 g3
    have hlen := tyR_len g3
    -- what is pushed
    have hpush : ∀ (S2 : CS) (st2 : List Int32) (x : Int32), gI [24] [48] S S2 → S2.1 24 = nI st2.length → stk (S2.2.1 48) st2 → st2.length < 60 → ev1 V k p st cc = x :: st2 → ∃ S', bp (f_X4_push_nf S2 x) (fun S28 => lt (nI i + 1) fun x29 => kk S28 x29) = some (fval V k p cs (bgn es pt) (es.getD pt 0), S') ∧ gI [24] [48] S S' := by
      intro S2 st2 x y1 y2 y3 y4 y5
      rw [c_push_nf y2 y4, bp_some, lt_eq, nI_1]
      rw [y5] at q3 g6
      exact hr _ (gI_ci (gI_ca y1 (by decide)) (by decide)) ⟨x :: st2, ts', rfl, stk_push y3, q3, by rw [List.length_cons]; omega, q2, g6⟩
    rcases ty1_c q1 with ⟨h0, h1, h2, rfl⟩ | ⟨h0, h1, h2, rfl⟩ | ⟨rfl, r, rfl, rfl⟩ | hop
    · -- a number
      have : ¬ 0 < -cc := fun z => by
        rw [Int32.lt_iff_toInt_lt, Int32.toInt_neg, show (0 : Int32).toInt = 0 from rfl, Int.bmod_def] at z
        split at z <;> omega
      rw [if_neg this, chk_nI hic (by omega)]
      exact hpush S1 st cc hg g1 g2 (by omega) (by unfold ev1; rw [if_pos h0])
    · -- a letter
      have hpos : 0 < -cc ∧ ¬ -cc < 97 ∧ ¬ 122 < -cc := by
        unfold lettersL at h1
        simp only [List.mem_cons, List.not_mem_nil, or_false] at h1
        rcases h1 with rfl | rfl | rfl | rfl | rfl | rfl | rfl | rfl | rfl | rfl | rfl | rfl | rfl <;> decide
      rw [if_pos hpos.1]
      simp only [jn0]
      rw [if_neg hpos.2.1, if_neg hpos.2.2, c_thing hV hS1 hk, bp_some]
      exact hpush S1 st _ hg g1 g2 (by omega) (by unfold ev1; rw [if_neg h0, if_pos h1])
    · -- not
      obtain ⟨x, xs, rfl, h1, h2⟩ := tyR_1 g3
      rw [List.length_cons] at g1 g4
      rw [show (- -33 : Int32) = 33 from by decide, if_pos (by decide)]
      simp only [jn0]
      rw [if_pos (by decide), if_pos trivial, c_pop_nf g1 (by omega) g2, bw_some]
      have y1 : gI [24] [48] S (ci S1 24 (nI xs.length)) := gI_ci hg (by decide)
      by_cases z : x = 0
      · rw [if_pos z]
        exact hpush _ xs 1 y1 rfl (stk_pop g2) (by omega) (by unfold ev1; rw [if_neg (by decide), if_neg (by decide), if_pos rfl]; show (if x = 0 then (1 : Int32) else 0) :: xs = _; rw [if_pos z])
      · rw [if_neg z]
        exact hpush _ xs 0 y1 rfl (stk_pop g2) (by omega) (by unfold ev1; rw [if_neg (by decide), if_neg (by decide), if_pos rfl]; show (if x = 0 then (1 : Int32) else 0) :: xs = _; rw [if_neg z])
    · -- two come together
      have hop2 : (∃ a b r, ts = a :: b :: r) ∧ 0 < -cc ∧ (-cc < 97 ∨ ¬ -cc < 97 ∧ 122 < -cc) ∧ ¬ -cc = 33 ∧ ¬ 0 ≤ cc.toInt ∧ cc ∉ lettersL ∧ ¬ cc = -33 := by
        rcases hop with ⟨hc, r, rfl, _⟩ | ⟨hc, a, b, r, rfl, _⟩ | ⟨hc, a, b, r, rfl, _⟩
        · exact ⟨⟨_, _, _, rfl⟩, by rcases hc with rfl | rfl <;> decide⟩
        · exact ⟨⟨_, _, _, rfl⟩, by rcases hc with rfl | rfl | rfl <;> decide⟩
        · exact ⟨⟨_, _, _, rfl⟩, by rcases hc with rfl | rfl | rfl | rfl <;> decide⟩
      obtain ⟨⟨a, b, r, rfl⟩, o1, o2, o3, o4, o5, o6⟩ := hop2
      obtain ⟨y, ys, rfl, h1, h2⟩ := tyR_1 g3
      obtain ⟨x, xs, rfl, h3, h4⟩ := tyR_1 h2
      rw [List.length_cons, List.length_cons] at g1 g4
      rw [if_pos o1]
      simp only [jn0]
      have hgo : ∃ S', (if -cc = 33 then bw (f_X4_pop_nf S1) (fun x17 S18 => if x17 = 0 then bp (f_X4_push_nf S18 1) (fun S21 => lt (nI i + 1) fun x22 => kk S21 x22) else bp (f_X4_push_nf S18 0) (fun S19 => lt (nI i + 1) fun x20 => kk S19 x20)) else bw (f_X4_pop_nf S1) (fun x10 S11 => bw (f_X4_pop_nf S11) (fun x12 S13 => bp (f_X4_joined (-cc) x12 x10) (fun x14 => bp (f_X4_push_nf S13 x14) (fun S15 => lt (nI i + 1) fun x16 => kk S15 x16))))) = some (fval V k p cs (bgn es pt) (es.getD pt 0), S') ∧ gI [24] [48] S S' := by
        rw [if_neg o3, c_pop_nf (st := x :: xs) g1 (by rw [List.length_cons]; omega) g2, bw_some, c_pop_nf (S := ci S1 24 (nI (x :: xs).length)) (st := xs) (x := x) rfl (by omega) (stk_pop g2), bw_some, jo_c, bp_some]
        exact hpush _ xs _ (gI_ci (gI_ci hg (by decide)) (by decide)) rfl (stk_pop (stk_pop g2)) (by omega) (by unfold ev1; rw [if_neg o4, if_neg o5, if_neg o6])
      rcases o2 with o2 | o2
      · rw [if_pos o2]; exact hgo
      · rw [if_neg o2.1, if_pos o2.2]; exact hgo
  · have : i = es.getD pt 0 := by omega
    subst this
    rw [tk_nil] at g5 g6
    have hts : ts = [fb] := Option.some.inj g5
    subst hts
    obtain ⟨x, xs, rfl, h1, h2⟩ := tyR_1 g3
    cases xs with
    | cons z zs => exact absurd h2 (by unfold tyR; exact id)
    | nil =>
      rw [if_pos ((nI_leI (by omega) (by omega)).mpr (by omega)), c_pop_nf (st := []) g1 (by decide) g2, bw_some]
      refine ⟨ci S1 24 (nI ([] : List Int32).length), ?_, gI_ci hg (by decide)⟩
      unfold fval
      rw [← g6]; rfl
theorem c_pop_sf {S : CS} {st : List Int32} {x : Int32} (h : S.1 25 = nI (st.length + 1)) (h60 : st.length < 60) (hs : stk (S.2.1 52) (x :: st)) : f_X4_pop_sf S = some (x, ci S 25 (nI st.length)) := by
  unfold f_X4_pop_sf
  rw [h, if_pos (by rw [show (0 : Int32) = nI 0 from rfl, nI_ltI (by omega) (by omega)]; omega), nI_pred, lt_eq]
  have e : (ci S 25 (nI st.length)).1 25 = nI st.length := rfl
  rw [e, chk_nI h60 (by decide), nI_clamp (by omega)]
  have : (ci S 25 (nI st.length)).2.1 52 st.length = x := stk_top hs
  rw [this]
theorem c_push_sf {S : CS} {n : Nat} (h : S.1 25 = nI n) (h60 : n < 60) (x : Int32) : f_X4_push_sf S x = some (ci (ca S 52 (upd (S.2.1 52) n x)) 25 (nI (n + 1))) := by
  unfold f_X4_push_sf
  rw [h, if_neg (fun h => by rw [show (60 : Int32) = nI 60 from rfl, nI_leI (by omega) (by omega)] at h; omega), chk_nI h60 (by decide), nI_clamp (by omega), lt_eq, lt_eq]
  have e : (ca S 52 (upd (S.2.1 52) n x)).1 25 = nI n := h
  rw [e, nI_1]
theorem c_val_sf {V : VW} {S : CS} {es : List Nat} {cs : List Int32} {pt k : Nat} {p : Int32} {fb : Bool} (hV : VOK V) (hS : tC V S) (hk : k < V.n) (hl : S.2.2 51 = es.length) (hes : ∀ i, i < es.length → S.2.1 51 i = nI (es.getD i 0)) (hcl : S.2.2 50 = cs.length) (hcs : ∀ i, i < cs.length → S.2.1 50 i = cs.getD i 0) (h8 : es.length ≤ 8) (h310 : cs.length ≤ 310) (hpt : pt < es.length) (hb : bgn es pt ≤ es.getD pt 0 ∧ es.getD pt 0 ≤ cs.length) (ht : tyL (tk cs (bgn es pt) (es.getD pt 0)) [] = some [fb]) : ∃ S', f_X4_valueOf_sf S (nI pt) (nI k) p = some (fval V k p cs (bgn es pt) (es.getD pt 0), S') ∧ gI [25] [52] S S' := by
  unfold f_X4_valueOf_sf L_X4_valueOf_sf_38
  rw [hl, if_neg (nI_pos (by omega)), if_pos ((nI_ltI (by omega) (by omega)).mpr hpt), lt_eq]
  have hbg : (jn1 (fun (x2 : Int32) => lo2 (fun rec5 S4 x3 => chk (nI pt) (S4.2.2 51) ( (if (S4.2.1 51 (nI pt).toNatClampNeg) ≤ x3 then bw (f_X4_pop_sf S4) (fun x32 S33 => some (x32, S33)) else (if (nI (S4.2.2 50)) ≤ x3 then bw (f_X4_pop_sf S4) (fun x32 S33 => some (x32, S33)) else chk x3 (S4.2.2 50) ( lt (-(S4.2.1 50 x3.toNatClampNeg)) fun x9 => (if 0 < x9 then jn0 ((if x9 = 33 then bw (f_X4_pop_sf S4) (fun x17 S18 => (if x17 = 0 then bp (f_X4_push_sf S18 1) (fun S21 => lt (x3 + 1) fun x22 => rec5 S21 x22) else bp (f_X4_push_sf S18 0) (fun S19 => lt (x3 + 1) fun x20 => rec5 S19 x20))) else bw (f_X4_pop_sf S4) (fun x10 S11 => bw (f_X4_pop_sf S11) (fun x12 S13 => bp (f_X4_joined x9 x12 x10) (fun x14 => bp (f_X4_push_sf S13 x14) (fun S15 => lt (x3 + 1) fun x16 => rec5 S15 x16)))))) (fun k23 => (if x9 < 97 then k23 else (if 122 < x9 then k23 else bp (f_X1_thingOf S4 (nI k) x9 p) (fun x25 => bp (f_X4_push_sf S4 x25) (fun S26 => lt (x3 + 1) fun x27 => rec5 S26 x27))))) else chk x3 (S4.2.2 50) ( bp (f_X4_push_sf S4 (S4.2.1 50 x3.toNatClampNeg)) (fun S28 => lt (x3 + 1) fun x29 => rec5 S28 x29)))))))) FU (ci S 25 0) x2) (fun k34 => if nI pt = 0 then k34 0 else chk (nI pt - 1) ((ci S 25 0).2.2 51) (k34 ((ci S 25 0).2.1 51 (nI pt - 1).toNatClampNeg)))) = lo2 (fun rec5 S4 x3 => chk (nI pt) (S4.2.2 51) ( (if (S4.2.1 51 (nI pt).toNatClampNeg) ≤ x3 then bw (f_X4_pop_sf S4) (fun x32 S33 => some (x32, S33)) else (if (nI (S4.2.2 50)) ≤ x3 then bw (f_X4_pop_sf S4) (fun x32 S33 => some (x32, S33)) else chk x3 (S4.2.2 50) ( lt (-(S4.2.1 50 x3.toNatClampNeg)) fun x9 => (if 0 < x9 then jn0 ((if x9 = 33 then bw (f_X4_pop_sf S4) (fun x17 S18 => (if x17 = 0 then bp (f_X4_push_sf S18 1) (fun S21 => lt (x3 + 1) fun x22 => rec5 S21 x22) else bp (f_X4_push_sf S18 0) (fun S19 => lt (x3 + 1) fun x20 => rec5 S19 x20))) else bw (f_X4_pop_sf S4) (fun x10 S11 => bw (f_X4_pop_sf S11) (fun x12 S13 => bp (f_X4_joined x9 x12 x10) (fun x14 => bp (f_X4_push_sf S13 x14) (fun S15 => lt (x3 + 1) fun x16 => rec5 S15 x16)))))) (fun k23 => (if x9 < 97 then k23 else (if 122 < x9 then k23 else bp (f_X1_thingOf S4 (nI k) x9 p) (fun x25 => bp (f_X4_push_sf S4 x25) (fun S26 => lt (x3 + 1) fun x27 => rec5 S26 x27))))) else chk x3 (S4.2.2 50) ( bp (f_X4_push_sf S4 (S4.2.1 50 x3.toNatClampNeg)) (fun S28 => lt (x3 + 1) fun x29 => rec5 S28 x29)))))))) FU (ci S 25 0) (nI (bgn es pt)) := by
    unfold jn1 bgn
    dsimp only
    have e2 : (ci S 25 0).2.2 51 = es.length := hl
    cases pt with
    | zero => rw [if_pos (show nI 0 = 0 from rfl), if_pos rfl]; rfl
    | succ j =>
      have e3 : (ci S 25 0).2.1 51 j = nI (es.getD j 0) := hes j (by omega)
      rw [if_neg (nI_ne0 (by omega) (by omega)), if_neg (by omega), nI_pred, e2, chk_nI (by omega) (by omega), nI_clamp (show j < 2 ^ 31 by omega), e3]; rfl
  rw [hbg]
  have hR : ∃ v, (tk cs (bgn es pt) (es.getD pt 0)).foldl (ev1 V k p) [] = [v] ∨ True := ⟨0, Or.inr trivial⟩
  refine lq2 (Q := fun o => ∃ S', o = some (fval V k p cs (bgn es pt) (es.getD pt 0), S') ∧ gI [25] [52] S S') (es.getD pt 0) (fun i S1 => gI [25] [52] S S1 ∧ ∃ st ts, S1.1 25 = nI st.length ∧ stk (S1.2.1 52) st ∧ tyR ts st ∧ st.length ≤ 60 ∧ tyL (tk cs i (es.getD pt 0)) ts = some [fb] ∧ (tk cs i (es.getD pt 0)).foldl (ev1 V k p) st = (tk cs (bgn es pt) (es.getD pt 0)).foldl (ev1 V k p) []) ?_ (bgn es pt) rfl hb.1 (FU_gt (by omega)) ⟨gI_ci gI_rf (by decide), [], [], rfl, fun i h => (by cases h), trivial, by decide, ht, rfl⟩
  rintro i S1 kk hi ⟨hg, st, ts, g1, g2, g3, g4, g5, g6⟩ hr
  have hS1 : tC V S1 := tC_gI hS hg (by decide) (by decide)
  have el : S1.2.2 = S.2.2 := hg.2.2
  have eE : S1.2.1 51 = S.2.1 51 := hg.2.1 51 (by decide)
  have eC : S1.2.1 50 = S.2.1 50 := hg.2.1 50 (by decide)
  rw [el, hl, chk_nI hpt (by omega), nI_clamp (by omega), eE, hes pt hpt, hcl]
  by_cases c : i < es.getD pt 0
  · have hic : i < cs.length := by omega
    have hr := fun a h1 h2 => hr a c ⟨h1, h2⟩
    rw [if_neg (fun h => by rw [nI_leI (by omega) (by omega)] at h; omega), if_neg (fun h => by rw [nI_leI (by omega) (by omega)] at h; omega), chk_nI hic (by omega), nI_clamp (by omega), eC, hcs i hic, lt_eq]
    rw [tk_cons c hb.2] at g5 g6
    rw [List.foldl_cons] at g6
    generalize cs.getD i 0 = cc at g5 g6
    have hty : ∃ ts', ty1 ts cc = some ts' ∧ tyL (tk cs (i + 1) (es.getD pt 0)) ts' = some [fb] := by
      unfold tyL at g5
      cases hz : ty1 ts cc with
      | none => rw [hz] at g5; cases g5
      | some ts' => rw [hz] at g5; exact ⟨ts', rfl, g5⟩
    obtain ⟨ts', q1, q2⟩ := hty
    have q3 := ty_step (V := V) (k := k) (p := p) q1 g3
    have hlen := tyR_len g3
    -- what is pushed
    have hpush : ∀ (S2 : CS) (st2 : List Int32) (x : Int32), gI [25] [52] S S2 → S2.1 25 = nI st2.length → stk (S2.2.1 52) st2 → st2.length < 60 → ev1 V k p st cc = x :: st2 → ∃ S', bp (f_X4_push_sf S2 x) (fun S28 => lt (nI i + 1) fun x29 => kk S28 x29) = some (fval V k p cs (bgn es pt) (es.getD pt 0), S') ∧ gI [25] [52] S S' := by
      intro S2 st2 x y1 y2 y3 y4 y5
      rw [c_push_sf y2 y4, bp_some, lt_eq, nI_1]
      rw [y5] at q3 g6
      exact hr _ (gI_ci (gI_ca y1 (by decide)) (by decide)) ⟨x :: st2, ts', rfl, stk_push y3, q3, by rw [List.length_cons]; omega, q2, g6⟩
    rcases ty1_c q1 with ⟨h0, h1, h2, rfl⟩ | ⟨h0, h1, h2, rfl⟩ | ⟨rfl, r, rfl, rfl⟩ | hop
    · -- a number
      have : ¬ 0 < -cc := fun z => by
        rw [Int32.lt_iff_toInt_lt, Int32.toInt_neg, show (0 : Int32).toInt = 0 from rfl, Int.bmod_def] at z
        split at z <;> omega
      rw [if_neg this, chk_nI hic (by omega)]
      exact hpush S1 st cc hg g1 g2 (by omega) (by unfold ev1; rw [if_pos h0])
    · -- a letter
      have hpos : 0 < -cc ∧ ¬ -cc < 97 ∧ ¬ 122 < -cc := by
        unfold lettersL at h1
        simp only [List.mem_cons, List.not_mem_nil, or_false] at h1
        rcases h1 with rfl | rfl | rfl | rfl | rfl | rfl | rfl | rfl | rfl | rfl | rfl | rfl | rfl <;> decide
      rw [if_pos hpos.1]
      simp only [jn0]
      rw [if_neg hpos.2.1, if_neg hpos.2.2, c_thing hV hS1 hk, bp_some]
      exact hpush S1 st _ hg g1 g2 (by omega) (by unfold ev1; rw [if_neg h0, if_pos h1])
    · -- not
      obtain ⟨x, xs, rfl, h1, h2⟩ := tyR_1 g3
      rw [List.length_cons] at g1 g4
      rw [show (- -33 : Int32) = 33 from by decide, if_pos (by decide)]
      simp only [jn0]
      rw [if_pos (by decide), if_pos trivial, c_pop_sf g1 (by omega) g2, bw_some]
      have y1 : gI [25] [52] S (ci S1 25 (nI xs.length)) := gI_ci hg (by decide)
      by_cases z : x = 0
      · rw [if_pos z]
        exact hpush _ xs 1 y1 rfl (stk_pop g2) (by omega) (by unfold ev1; rw [if_neg (by decide), if_neg (by decide), if_pos rfl]; show (if x = 0 then (1 : Int32) else 0) :: xs = _; rw [if_pos z])
      · rw [if_neg z]
        exact hpush _ xs 0 y1 rfl (stk_pop g2) (by omega) (by unfold ev1; rw [if_neg (by decide), if_neg (by decide), if_pos rfl]; show (if x = 0 then (1 : Int32) else 0) :: xs = _; rw [if_neg z])
    · -- two come together
      have hop2 : (∃ a b r, ts = a :: b :: r) ∧ 0 < -cc ∧ (-cc < 97 ∨ ¬ -cc < 97 ∧ 122 < -cc) ∧ ¬ -cc = 33 ∧ ¬ 0 ≤ cc.toInt ∧ cc ∉ lettersL ∧ ¬ cc = -33 := by
        rcases hop with ⟨hc, r, rfl, _⟩ | ⟨hc, a, b, r, rfl, _⟩ | ⟨hc, a, b, r, rfl, _⟩
        · exact ⟨⟨_, _, _, rfl⟩, by rcases hc with rfl | rfl <;> decide⟩
        · exact ⟨⟨_, _, _, rfl⟩, by rcases hc with rfl | rfl | rfl <;> decide⟩
        · exact ⟨⟨_, _, _, rfl⟩, by rcases hc with rfl | rfl | rfl | rfl <;> decide⟩
      obtain ⟨⟨a, b, r, rfl⟩, o1, o2, o3, o4, o5, o6⟩ := hop2
      obtain ⟨y, ys, rfl, h1, h2⟩ := tyR_1 g3
      obtain ⟨x, xs, rfl, h3, h4⟩ := tyR_1 h2
      rw [List.length_cons, List.length_cons] at g1 g4
      rw [if_pos o1]
      simp only [jn0]
      have hgo : ∃ S', (if -cc = 33 then bw (f_X4_pop_sf S1) (fun x17 S18 => if x17 = 0 then bp (f_X4_push_sf S18 1) (fun S21 => lt (nI i + 1) fun x22 => kk S21 x22) else bp (f_X4_push_sf S18 0) (fun S19 => lt (nI i + 1) fun x20 => kk S19 x20)) else bw (f_X4_pop_sf S1) (fun x10 S11 => bw (f_X4_pop_sf S11) (fun x12 S13 => bp (f_X4_joined (-cc) x12 x10) (fun x14 => bp (f_X4_push_sf S13 x14) (fun S15 => lt (nI i + 1) fun x16 => kk S15 x16))))) = some (fval V k p cs (bgn es pt) (es.getD pt 0), S') ∧ gI [25] [52] S S' := by
        rw [if_neg o3, c_pop_sf (st := x :: xs) g1 (by rw [List.length_cons]; omega) g2, bw_some, c_pop_sf (S := ci S1 25 (nI (x :: xs).length)) (st := xs) (x := x) rfl (by omega) (stk_pop g2), bw_some, jo_c, bp_some]
        exact hpush _ xs _ (gI_ci (gI_ci hg (by decide)) (by decide)) rfl (stk_pop (stk_pop g2)) (by omega) (by unfold ev1; rw [if_neg o4, if_neg o5, if_neg o6])
      rcases o2 with o2 | o2
      · rw [if_pos o2]; exact hgo
      · rw [if_neg o2.1, if_pos o2.2]; exact hgo
  · have : i = es.getD pt 0 := by omega
    subst this
    rw [tk_nil] at g5 g6
    have hts : ts = [fb] := Option.some.inj g5
    subst hts
    obtain ⟨x, xs, rfl, h1, h2⟩ := tyR_1 g3
    cases xs with
    | cons z zs => exact absurd h2 (by unfold tyR; exact id)
    | nil =>
      rw [if_pos ((nI_leI (by omega) (by omega)).mpr (by omega)), c_pop_sf (st := []) g1 (by decide) g2, bw_some]
      refine ⟨ci S1 25 (nI ([] : List Int32).length), ?_, gI_ci hg (by decide)⟩
      unfold fval
      rw [← g6]; rfl
