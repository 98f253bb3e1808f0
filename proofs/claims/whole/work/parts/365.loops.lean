/-! loops by a measure; counting ones, the counter last -/
theorem FU_gt {n : Nat} (h : n < 20000) : n < FU := h
theorem lg1 {α ρ : Type} {body : (α → Option ρ) → α → Option ρ} {Q : Option ρ → Prop} (P : Nat → α → Prop) (h : ∀ (m : Nat) (a : α) (kk : α → Option ρ), P m a → (∀ m' a', m' < m → P m' a' → Q (kk a')) → Q (body kk a)) : ∀ (fuel m : Nat) (a : α), m < fuel → P m a → Q (lo1 body fuel a) := by
  intro fuel
  induction fuel with
  | zero => intro m a hm hp; omega
  | succ f ih => intro m a hm hp; exact h m a (lo1 body f) hp (fun m' a' h1 h2 => ih m' a' (by omega) h2)
theorem lg2 {α β ρ : Type} {body : (α → β → Option ρ) → α → β → Option ρ} {Q : Option ρ → Prop} (P : Nat → α → β → Prop) (h : ∀ (m : Nat) (a : α) (b : β) (kk : α → β → Option ρ), P m a b → (∀ m' a' b', m' < m → P m' a' b' → Q (kk a' b')) → Q (body kk a b)) : ∀ (fuel m : Nat) (a : α) (b : β), m < fuel → P m a b → Q (lo2 body fuel a b) := by
  intro fuel
  induction fuel with
  | zero => intro m a b hm hp; omega
  | succ f ih => intro m a b hm hp; exact h m a b (lo2 body f) hp (fun m' a' b' h1 h2 => ih m' a' b' (by omega) h2)
theorem lg3 {α β γ ρ : Type} {body : (α → β → γ → Option ρ) → α → β → γ → Option ρ} {Q : Option ρ → Prop} (P : Nat → α → β → γ → Prop) (h : ∀ (m : Nat) (a : α) (b : β) (c : γ) (kk : α → β → γ → Option ρ), P m a b c → (∀ m' a' b' c', m' < m → P m' a' b' c' → Q (kk a' b' c')) → Q (body kk a b c)) : ∀ (fuel m : Nat) (a : α) (b : β) (c : γ), m < fuel → P m a b c → Q (lo3 body fuel a b c) := by
  intro fuel
  induction fuel with
  | zero => intro m a b c hm hp; omega
  | succ f ih => intro m a b c hm hp; exact h m a b c (lo3 body f) hp (fun m' a' b' c' h1 h2 => ih m' a' b' c' (by omega) h2)
theorem lg4 {α β γ δ ρ : Type} {body : (α → β → γ → δ → Option ρ) → α → β → γ → δ → Option ρ} {Q : Option ρ → Prop} (P : Nat → α → β → γ → δ → Prop) (h : ∀ (m : Nat) (a : α) (b : β) (c : γ) (d : δ) (kk : α → β → γ → δ → Option ρ), P m a b c d → (∀ m' a' b' c' d', m' < m → P m' a' b' c' d' → Q (kk a' b' c' d')) → Q (body kk a b c d)) : ∀ (fuel m : Nat) (a : α) (b : β) (c : γ) (d : δ), m < fuel → P m a b c d → Q (lo4 body fuel a b c d) := by
  intro fuel
  induction fuel with
  | zero => intro m a b c d hm hp; omega
  | succ f ih => intro m a b c d hm hp; exact h m a b c d (lo4 body f) hp (fun m' a' b' c' d' h1 h2 => ih m' a' b' c' d' (by omega) h2)
theorem lq1 {ρ : Type} {body : (Int32 → Option ρ) → Int32 → Option ρ} {Q : Option ρ → Prop} (n : Nat) (P : Nat → Prop) (h : ∀ (i : Nat) (kk : Int32 → Option ρ), i ≤ n → P i → (i < n → P (i + 1) → Q (kk (nI (i + 1)))) → Q (body kk (nI i))) {x : Int32} (i : Nat) (hx : x = nI i) (hi : i ≤ n) (hn : n < FU) (hp : P i) : Q (lo1 body FU x) := by
  refine lg1 (fun m a => ∃ j, j + m = n ∧ a = nI j ∧ P j) ?_ FU (n - i) x (by omega) ⟨i, by omega, hx, hp⟩
  rintro m a kk ⟨j, hj, rfl, hp⟩ hr
  exact h j kk (by omega) hp (fun h1 h2 => hr (m - 1) _ (by omega) ⟨j + 1, by omega, rfl, h2⟩)
theorem lq2 {α ρ : Type} {body : (α → Int32 → Option ρ) → α → Int32 → Option ρ} {Q : Option ρ → Prop} (n : Nat) (P : Nat → α → Prop) (h : ∀ (i : Nat) (a : α) (kk : α → Int32 → Option ρ), i ≤ n → P i a → (∀ a', i < n → P (i + 1) a' → Q (kk a' (nI (i + 1)))) → Q (body kk a (nI i))) {x : Int32} {a : α} (i : Nat) (hx : x = nI i) (hi : i ≤ n) (hn : n < FU) (hp : P i a) : Q (lo2 body FU a x) := by
  refine lg2 (fun m a b => ∃ j, j + m = n ∧ b = nI j ∧ P j a) ?_ FU (n - i) a x (by omega) ⟨i, by omega, hx, hp⟩
  rintro m a b kk ⟨j, hj, rfl, hp⟩ hr
  exact h j a kk (by omega) hp (fun a' h1 h2 => hr (m - 1) _ _ (by omega) ⟨j + 1, by omega, rfl, h2⟩)
theorem lq3 {α β ρ : Type} {body : (α → β → Int32 → Option ρ) → α → β → Int32 → Option ρ} {Q : Option ρ → Prop} (n : Nat) (P : Nat → α → β → Prop) (h : ∀ (i : Nat) (a : α) (b : β) (kk : α → β → Int32 → Option ρ), i ≤ n → P i a b → (∀ a' b', i < n → P (i + 1) a' b' → Q (kk a' b' (nI (i + 1)))) → Q (body kk a b (nI i))) {x : Int32} {a : α} {b : β} (i : Nat) (hx : x = nI i) (hi : i ≤ n) (hn : n < FU) (hp : P i a b) : Q (lo3 body FU a b x) := by
  refine lg3 (fun m a b c => ∃ j, j + m = n ∧ c = nI j ∧ P j a b) ?_ FU (n - i) a b x (by omega) ⟨i, by omega, hx, hp⟩
  rintro m a b c kk ⟨j, hj, rfl, hp⟩ hr
  exact h j a b kk (by omega) hp (fun a' b' h1 h2 => hr (m - 1) _ _ _ (by omega) ⟨j + 1, by omega, rfl, h2⟩)
theorem lq4 {α β γ ρ : Type} {body : (α → β → γ → Int32 → Option ρ) → α → β → γ → Int32 → Option ρ} {Q : Option ρ → Prop} (n : Nat) (P : Nat → α → β → γ → Prop) (h : ∀ (i : Nat) (a : α) (b : β) (c : γ) (kk : α → β → γ → Int32 → Option ρ), i ≤ n → P i a b c → (∀ a' b' c', i < n → P (i + 1) a' b' c' → Q (kk a' b' c' (nI (i + 1)))) → Q (body kk a b c (nI i))) {x : Int32} {a : α} {b : β} {c : γ} (i : Nat) (hx : x = nI i) (hi : i ≤ n) (hn : n < FU) (hp : P i a b c) : Q (lo4 body FU a b c x) := by
  refine lg4 (fun m a b c d => ∃ j, j + m = n ∧ d = nI j ∧ P j a b c) ?_ FU (n - i) a b c x (by omega) ⟨i, by omega, hx, hp⟩
  rintro m a b c d kk ⟨j, hj, rfl, hp⟩ hr
  exact h j a b c kk (by omega) hp (fun a' b' c' h1 h2 => hr (m - 1) _ _ _ _ (by omega) ⟨j + 1, by omega, rfl, h2⟩)
/-- countdown: the counter last, from i to 0 -/
theorem lqd2 {α ρ : Type} {body : (α → Int32 → Option ρ) → α → Int32 → Option ρ} {Q : Option ρ → Prop} (P : Nat → α → Prop) (h : ∀ (i : Nat) (a : α) (kk : α → Int32 → Option ρ), P i a → (∀ a', 0 < i → P (i - 1) a' → Q (kk a' (nI (i - 1)))) → Q (body kk a (nI i))) {x : Int32} {a : α} (i : Nat) (hx : x = nI i) (hn : i < FU) (hp : P i a) : Q (lo2 body FU a x) := by
  refine lg2 (fun m a b => b = nI m ∧ P m a) ?_ FU i a x hn ⟨hx, hp⟩
  rintro m a b kk ⟨rfl, hp⟩ hr
  exact h m a kk hp (fun a' h1 h2 => hr (m - 1) _ _ (by omega) ⟨rfl, h2⟩)
def itN {α : Type} (f : Nat → α → α) (a : α) : Nat → α
  | 0 => a
  | n + 1 => f n (itN f a n)
theorem lf1 {α ρ : Type} {body : (α → Int32 → Option ρ) → α → Int32 → Option ρ} {R : Option ρ} (f : Nat → α → α) (a0 : α) (lo n : Nat) (hn : n < FU) (h1 : ∀ (i : Nat) (kk : α → Int32 → Option ρ), lo ≤ i → i < n → body kk (itN f a0 i) (nI i) = kk (f i (itN f a0 i)) (nI (i + 1))) (h2 : ∀ (kk : α → Int32 → Option ρ), body kk (itN f a0 n) (nI n) = R) {x : Int32} {a : α} (hx : x = nI lo) (ha : a = itN f a0 lo) (hi : lo ≤ n) : lo2 body FU a x = R := by
  refine lq2 (Q := fun o => o = R) n (fun i a => lo ≤ i ∧ a = itN f a0 i) ?_ lo hx hi hn ⟨Nat.le_refl _, ha⟩
  intro i a kk hi hp hr
  obtain ⟨hlo, rfl⟩ := hp
  by_cases c : i < n
  · show body kk (itN f a0 i) (nI i) = R
    rw [h1 i kk hlo c]
    exact hr _ c ⟨by omega, rfl⟩
  · have : i = n := by omega
    subst this
    exact h2 kk
theorem lf3 {α β ρ : Type} {body : (α → β → Int32 → Option ρ) → α → β → Int32 → Option ρ} {R : Option ρ} (f : Nat → α × β → α × β) (a0 : α × β) (lo n : Nat) (hn : n < FU) (h1 : ∀ (i : Nat) (kk : α → β → Int32 → Option ρ), lo ≤ i → i < n → body kk (itN f a0 i).1 (itN f a0 i).2 (nI i) = kk (f i (itN f a0 i)).1 (f i (itN f a0 i)).2 (nI (i + 1))) (h2 : ∀ (kk : α → β → Int32 → Option ρ), body kk (itN f a0 n).1 (itN f a0 n).2 (nI n) = R) {x : Int32} {a : α} {b : β} (hx : x = nI lo) (ha : a = (itN f a0 lo).1) (hb : b = (itN f a0 lo).2) (hi : lo ≤ n) : lo3 body FU a b x = R := by
  refine lq3 (Q := fun o => o = R) n (fun i a b => lo ≤ i ∧ a = (itN f a0 i).1 ∧ b = (itN f a0 i).2) ?_ lo hx hi hn ⟨Nat.le_refl _, ha, hb⟩
  intro i a b kk hi hp hr
  obtain ⟨hlo, rfl, rfl⟩ := hp
  by_cases c : i < n
  · show body kk (itN f a0 i).1 (itN f a0 i).2 (nI i) = R
    rw [h1 i kk hlo c]
    exact hr _ _ c ⟨by omega, rfl, rfl⟩
  · have : i = n := by omega
    subst this
    exact h2 kk
/-- all bounds of a mark at once -/
theorem vk {V : VW} (hV : VOK V) {k : Nat} (hk : k < V.n) : k < 60 ∧ V.n ≤ 60 ∧ V.ne ≤ 6 ∧ V.np ≤ 8 ∧ V.na ≤ 16 ∧ V.ev k < V.ne ∧ V.ath k < V.na ∧ V.pl k < V.np ∧ V.dy k ≤ V.td ∧ V.td ≤ 20000 ∧ V.mi k ≤ 1439 ∧ 1 ≤ V.va k ∧ V.va k ≤ 1000000 ∧ V.pa k ≤ 63 :=
  ⟨Nat.lt_of_lt_of_le hk hV.n, hV.n, hV.ne, hV.np, hV.na, hV.ev k hk, hV.ath k hk, hV.pl k hk, hV.dy k hk, hV.td, hV.mi k hk, (hV.va k hk).1, (hV.va k hk).2, hV.pa k hk⟩
theorem m_A0 {V : VW} {M : MS} (hR : tR V (M.2 0)) : M.2 0 (0 : Int32).toNatClampNeg = nI V.ne := hR.ne
theorem m_A1 {V : VW} {M : MS} (hR : tR V (M.2 0)) : M.2 0 (1 : Int32).toNatClampNeg = nI V.np := hR.np
theorem m_A2 {V : VW} {M : MS} (hR : tR V (M.2 0)) : M.2 0 (2 : Int32).toNatClampNeg = nI V.na := hR.na
theorem m_A3 {V : VW} {M : MS} (hR : tR V (M.2 0)) : M.2 0 (3 : Int32).toNatClampNeg = nI V.n := hR.n
theorem m_A4 {V : VW} {M : MS} (hR : tR V (M.2 0)) : M.2 0 (4 : Int32).toNatClampNeg = nI V.td := hR.td
theorem chk_c0 {ρ : Type} {F : Option ρ} : chk 0 1177 F = F := chk_of (k := 0) rfl (by decide) (by decide)
theorem chk_c1 {ρ : Type} {F : Option ρ} : chk 1 1177 F = F := chk_of (k := 1) rfl (by decide) (by decide)
theorem chk_c2 {ρ : Type} {F : Option ρ} : chk 2 1177 F = F := chk_of (k := 2) rfl (by decide) (by decide)
theorem chk_c3 {ρ : Type} {F : Option ρ} : chk 3 1177 F = F := chk_of (k := 3) rfl (by decide) (by decide)
theorem chk_c4 {ρ : Type} {F : Option ρ} : chk 4 1177 F = F := chk_of (k := 4) rfl (by decide) (by decide)
theorem m_o0 {V : VW} {M : MS} (hV : VOK V) (hR : tR V (M.2 0)) {k : Nat} (hk : k < V.n) : f_X12_of M (nI k) 0 = some (nI (V.ev k)) := by rw [← hR.ev k hk]; exact m_of (vk hV hk).1 (by decide)
theorem m_o1 {V : VW} {M : MS} (hV : VOK V) (hR : tR V (M.2 0)) {k : Nat} (hk : k < V.n) : f_X12_of M (nI k) 1 = some (nI (V.ath k)) := by rw [← hR.ath k hk]; exact m_of (vk hV hk).1 (by decide)
theorem m_o2 {V : VW} {M : MS} (hV : VOK V) (hR : tR V (M.2 0)) {k : Nat} (hk : k < V.n) : f_X12_of M (nI k) 2 = some (nI (V.pl k)) := by rw [← hR.pl k hk]; exact m_of (vk hV hk).1 (by decide)
theorem m_o3 {V : VW} {M : MS} (hV : VOK V) (hR : tR V (M.2 0)) {k : Nat} (hk : k < V.n) : f_X12_of M (nI k) 3 = some (nI (V.dy k)) := by rw [← hR.dy k hk]; exact m_of (vk hV hk).1 (by decide)
theorem m_o4 {V : VW} {M : MS} (hV : VOK V) (hR : tR V (M.2 0)) {k : Nat} (hk : k < V.n) : f_X12_of M (nI k) 4 = some (nI (V.mi k)) := by rw [← hR.mi k hk]; exact m_of (vk hV hk).1 (by decide)
theorem m_o5 {V : VW} {M : MS} (hV : VOK V) (hR : tR V (M.2 0)) {k : Nat} (hk : k < V.n) : f_X12_of M (nI k) 5 = some (nI (V.va k)) := by rw [← hR.va k hk]; exact m_of (vk hV hk).1 (by decide)
theorem m_o6 {V : VW} {M : MS} (hV : VOK V) (hR : tR V (M.2 0)) {k : Nat} (hk : k < V.n) : f_X12_of M (nI k) 6 = some (V.wi k) := by rw [← hR.wi k hk]; exact m_of (vk hV hk).1 (by decide)
theorem m_o7 {V : VW} {M : MS} (hV : VOK V) (hR : tR V (M.2 0)) {k : Nat} (hk : k < V.n) : f_X12_of M (nI k) 7 = some (V.sh k) := by rw [← hR.sh k hk]; exact m_of (vk hV hk).1 (by decide)
theorem m_o8 {V : VW} {M : MS} (hV : VOK V) (hR : tR V (M.2 0)) {k : Nat} (hk : k < V.n) : f_X12_of M (nI k) 8 = some (nI (V.pa k)) := by rw [← hR.pa k hk]; exact m_of (vk hV hk).1 (by decide)
theorem m_o9 {V : VW} {M : MS} (hV : VOK V) (hR : tR V (M.2 0)) {k : Nat} (hk : k < V.n) : f_X12_of M (nI k) 9 = some (V.ra k) := by rw [← hR.ra k hk]; exact m_of (vk hV hk).1 (by decide)
theorem m_o10 {V : VW} {M : MS} (hV : VOK V) (hR : tR V (M.2 0)) {k : Nat} (hk : k < V.n) : f_X12_of M (nI k) 10 = some (V.sk k) := by rw [← hR.sk k hk]; exact m_of (vk hV hk).1 (by decide)
theorem isIn_n {x : Int32} (n : Nat) (hn : n < 2 ^ 30) {y : Int32} (hy : y = nI n) : f_X12_isIn x 0 y = some (inR x (n + 1)) := by rw [hy]; exact isIn_le hn
theorem ite_in {x y : Int32} (n : Nat) (hn : n < 2 ^ 30) (hy : y = nI n) {ρ : Type} {A B C : ρ} : (if x < 0 then A else (if y < x then B else C)) = (if x < 0 then A else if inR x (n + 1) = true then C else B) := by
  have h := isIn_n (x := x) n hn hy
  unfold f_X12_isIn at h
  by_cases c1 : x < 0
  · rw [if_pos c1, if_pos c1]
  · rw [if_neg c1, if_neg c1] at *
    by_cases c2 : y < x
    · rw [if_pos c2] at *; rw [← Option.some.inj h]; rfl
    · rw [if_neg c2] at *; rw [← Option.some.inj h]; rfl
