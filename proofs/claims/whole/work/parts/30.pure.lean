/-! LAYER 2: the two readings, pure. VW: what is told, as mathematics; both sides are tied to it -/
def VW : Type := (Nat) × (Nat) × (Nat) × (Nat) × (Nat) × (Nat → Int32) × (Nat → Int32) × (Nat → Int32) × (Nat → Int32) × (Nat → Int32) × (Nat → Int32) × (Nat → Nat) × (Nat → Nat) × (Nat → Nat) × (Nat → Nat) × (Nat → Nat) × (Nat → Nat) × (Nat → Int32) × (Nat → Int32) × (Nat → Nat) × (Nat → Int32) × (Nat → Int32)
def VW.ne (V : VW) : Nat := V.1
def VW.np (V : VW) : Nat := V.2.1
def VW.na (V : VW) : Nat := V.2.2.1
def VW.n (V : VW) : Nat := V.2.2.2.1
def VW.td (V : VW) : Nat := V.2.2.2.2.1
def VW.e0 (V : VW) : Nat → Int32 := V.2.2.2.2.2.1
def VW.e1 (V : VW) : Nat → Int32 := V.2.2.2.2.2.2.1
def VW.p0 (V : VW) : Nat → Int32 := V.2.2.2.2.2.2.2.1
def VW.p1 (V : VW) : Nat → Int32 := V.2.2.2.2.2.2.2.2.1
def VW.a0 (V : VW) : Nat → Int32 := V.2.2.2.2.2.2.2.2.2.1
def VW.a1 (V : VW) : Nat → Int32 := V.2.2.2.2.2.2.2.2.2.2.1
def VW.ev (V : VW) : Nat → Nat := V.2.2.2.2.2.2.2.2.2.2.2.1
def VW.ath (V : VW) : Nat → Nat := V.2.2.2.2.2.2.2.2.2.2.2.2.1
def VW.pl (V : VW) : Nat → Nat := V.2.2.2.2.2.2.2.2.2.2.2.2.2.1
def VW.dy (V : VW) : Nat → Nat := V.2.2.2.2.2.2.2.2.2.2.2.2.2.2.1
def VW.mi (V : VW) : Nat → Nat := V.2.2.2.2.2.2.2.2.2.2.2.2.2.2.2.1
def VW.va (V : VW) : Nat → Nat := V.2.2.2.2.2.2.2.2.2.2.2.2.2.2.2.2.1
def VW.wi (V : VW) : Nat → Int32 := V.2.2.2.2.2.2.2.2.2.2.2.2.2.2.2.2.2.1
def VW.sh (V : VW) : Nat → Int32 := V.2.2.2.2.2.2.2.2.2.2.2.2.2.2.2.2.2.2.1
def VW.pa (V : VW) : Nat → Nat := V.2.2.2.2.2.2.2.2.2.2.2.2.2.2.2.2.2.2.2.1
def VW.ra (V : VW) : Nat → Int32 := V.2.2.2.2.2.2.2.2.2.2.2.2.2.2.2.2.2.2.2.2.1
def VW.sk (V : VW) : Nat → Int32 := V.2.2.2.2.2.2.2.2.2.2.2.2.2.2.2.2.2.2.2.2.2
/-- what holds of all that can be told -/
def VOK (V : VW) : Prop := (V.ne ≤ 6) ∧ (V.np ≤ 8) ∧ (V.na ≤ 16) ∧ (V.n ≤ 60) ∧ (V.td ≤ 20000) ∧ (∀ i, i < V.ne → V.e0 i = 0 ∨ V.e0 i = 1) ∧ (∀ i, i < V.na → -30000 ≤ (V.a0 i).toInt ∧ (V.a0 i).toInt ≤ 20000) ∧ (∀ k, k < V.n → V.ev k < V.ne) ∧ (∀ k, k < V.n → V.ath k < V.na) ∧ (∀ k, k < V.n → V.pl k < V.np) ∧ (∀ k, k < V.n → V.dy k ≤ V.td) ∧ (∀ k, k < V.n → V.mi k ≤ 1439) ∧ (∀ k, k < V.n → 1 ≤ V.va k ∧ V.va k ≤ 1000000) ∧ (∀ k, k < V.n → V.pa k ≤ 63) ∧ (∀ k, k < V.n → V.ra k = -1 ∨ ∃ d, d ≤ V.td ∧ V.ra k = nI d) ∧ (∀ k, k < V.n → V.sk k = -1 ∨ ∃ d, d ≤ V.td ∧ V.sk k = nI d)
theorem VOK.ne {V : VW} (h : VOK V) : V.ne ≤ 6 := h.1
theorem VOK.np {V : VW} (h : VOK V) : V.np ≤ 8 := h.2.1
theorem VOK.na {V : VW} (h : VOK V) : V.na ≤ 16 := h.2.2.1
theorem VOK.n {V : VW} (h : VOK V) : V.n ≤ 60 := h.2.2.2.1
theorem VOK.td {V : VW} (h : VOK V) : V.td ≤ 20000 := h.2.2.2.2.1
theorem VOK.e0 {V : VW} (h : VOK V) : ∀ i, i < V.ne → V.e0 i = 0 ∨ V.e0 i = 1 := h.2.2.2.2.2.1
theorem VOK.a0 {V : VW} (h : VOK V) : ∀ i, i < V.na → -30000 ≤ (V.a0 i).toInt ∧ (V.a0 i).toInt ≤ 20000 := h.2.2.2.2.2.2.1
theorem VOK.ev {V : VW} (h : VOK V) : ∀ k, k < V.n → V.ev k < V.ne := h.2.2.2.2.2.2.2.1
theorem VOK.ath {V : VW} (h : VOK V) : ∀ k, k < V.n → V.ath k < V.na := h.2.2.2.2.2.2.2.2.1
theorem VOK.pl {V : VW} (h : VOK V) : ∀ k, k < V.n → V.pl k < V.np := h.2.2.2.2.2.2.2.2.2.1
theorem VOK.dy {V : VW} (h : VOK V) : ∀ k, k < V.n → V.dy k ≤ V.td := h.2.2.2.2.2.2.2.2.2.2.1
theorem VOK.mi {V : VW} (h : VOK V) : ∀ k, k < V.n → V.mi k ≤ 1439 := h.2.2.2.2.2.2.2.2.2.2.2.1
theorem VOK.va {V : VW} (h : VOK V) : ∀ k, k < V.n → 1 ≤ V.va k ∧ V.va k ≤ 1000000 := h.2.2.2.2.2.2.2.2.2.2.2.2.1
theorem VOK.pa {V : VW} (h : VOK V) : ∀ k, k < V.n → V.pa k ≤ 63 := h.2.2.2.2.2.2.2.2.2.2.2.2.2.1
theorem VOK.ra {V : VW} (h : VOK V) : ∀ k, k < V.n → V.ra k = -1 ∨ ∃ d, d ≤ V.td ∧ V.ra k = nI d := h.2.2.2.2.2.2.2.2.2.2.2.2.2.2.1
theorem VOK.sk {V : VW} (h : VOK V) : ∀ k, k < V.n → V.sk k = -1 ∨ ∃ d, d ≤ V.td ∧ V.sk k = nI d := h.2.2.2.2.2.2.2.2.2.2.2.2.2.2.2
/-- the class's fields -/
def tC (V : VW) (S : CS) : Prop := (S.1 0 = nI V.td) ∧ (S.1 7 = nI V.ne) ∧ (S.1 8 = nI V.np) ∧ (S.1 9 = nI V.na) ∧ (S.1 6 = nI V.n) ∧ (∀ i, i < V.ne → S.2.1 5 i = V.e0 i) ∧ (∀ i, i < V.ne → S.2.1 6 i = V.e1 i) ∧ (∀ i, i < V.np → S.2.1 8 i = V.p0 i) ∧ (∀ i, i < V.np → S.2.1 9 i = V.p1 i) ∧ (∀ i, i < V.na → S.2.1 11 i = V.a0 i) ∧ (∀ i, i < V.na → S.2.1 12 i = V.a1 i) ∧ (∀ k, k < V.n → S.2.1 13 k = nI (V.ev k)) ∧ (∀ k, k < V.n → S.2.1 14 k = nI (V.ath k)) ∧ (∀ k, k < V.n → S.2.1 15 k = nI (V.pl k)) ∧ (∀ k, k < V.n → S.2.1 16 k = nI (V.dy k)) ∧ (∀ k, k < V.n → S.2.1 17 k = nI (V.mi k)) ∧ (∀ k, k < V.n → S.2.1 18 k = nI (V.va k)) ∧ (∀ k, k < V.n → S.2.1 19 k = V.wi k) ∧ (∀ k, k < V.n → S.2.1 20 k = V.sh k) ∧ (∀ k, k < V.n → S.2.1 21 k = nI (V.pa k)) ∧ (∀ k, k < V.n → S.2.1 22 k = V.ra k) ∧ (∀ k, k < V.n → S.2.1 23 k = V.sk k)
theorem tC.td {V : VW} {S : CS} (h : tC V S) : S.1 0 = nI V.td := h.1
theorem tC.ne {V : VW} {S : CS} (h : tC V S) : S.1 7 = nI V.ne := h.2.1
theorem tC.np {V : VW} {S : CS} (h : tC V S) : S.1 8 = nI V.np := h.2.2.1
theorem tC.na {V : VW} {S : CS} (h : tC V S) : S.1 9 = nI V.na := h.2.2.2.1
theorem tC.n {V : VW} {S : CS} (h : tC V S) : S.1 6 = nI V.n := h.2.2.2.2.1
theorem tC.e0 {V : VW} {S : CS} (h : tC V S) : ∀ i, i < V.ne → S.2.1 5 i = V.e0 i := h.2.2.2.2.2.1
theorem tC.e1 {V : VW} {S : CS} (h : tC V S) : ∀ i, i < V.ne → S.2.1 6 i = V.e1 i := h.2.2.2.2.2.2.1
theorem tC.p0 {V : VW} {S : CS} (h : tC V S) : ∀ i, i < V.np → S.2.1 8 i = V.p0 i := h.2.2.2.2.2.2.2.1
theorem tC.p1 {V : VW} {S : CS} (h : tC V S) : ∀ i, i < V.np → S.2.1 9 i = V.p1 i := h.2.2.2.2.2.2.2.2.1
theorem tC.a0 {V : VW} {S : CS} (h : tC V S) : ∀ i, i < V.na → S.2.1 11 i = V.a0 i := h.2.2.2.2.2.2.2.2.2.1
theorem tC.a1 {V : VW} {S : CS} (h : tC V S) : ∀ i, i < V.na → S.2.1 12 i = V.a1 i := h.2.2.2.2.2.2.2.2.2.2.1
theorem tC.ev {V : VW} {S : CS} (h : tC V S) : ∀ k, k < V.n → S.2.1 13 k = nI (V.ev k) := h.2.2.2.2.2.2.2.2.2.2.2.1
theorem tC.ath {V : VW} {S : CS} (h : tC V S) : ∀ k, k < V.n → S.2.1 14 k = nI (V.ath k) := h.2.2.2.2.2.2.2.2.2.2.2.2.1
theorem tC.pl {V : VW} {S : CS} (h : tC V S) : ∀ k, k < V.n → S.2.1 15 k = nI (V.pl k) := h.2.2.2.2.2.2.2.2.2.2.2.2.2.1
theorem tC.dy {V : VW} {S : CS} (h : tC V S) : ∀ k, k < V.n → S.2.1 16 k = nI (V.dy k) := h.2.2.2.2.2.2.2.2.2.2.2.2.2.2.1
theorem tC.mi {V : VW} {S : CS} (h : tC V S) : ∀ k, k < V.n → S.2.1 17 k = nI (V.mi k) := h.2.2.2.2.2.2.2.2.2.2.2.2.2.2.2.1
theorem tC.va {V : VW} {S : CS} (h : tC V S) : ∀ k, k < V.n → S.2.1 18 k = nI (V.va k) := h.2.2.2.2.2.2.2.2.2.2.2.2.2.2.2.2.1
theorem tC.wi {V : VW} {S : CS} (h : tC V S) : ∀ k, k < V.n → S.2.1 19 k = V.wi k := h.2.2.2.2.2.2.2.2.2.2.2.2.2.2.2.2.2.1
theorem tC.sh {V : VW} {S : CS} (h : tC V S) : ∀ k, k < V.n → S.2.1 20 k = V.sh k := h.2.2.2.2.2.2.2.2.2.2.2.2.2.2.2.2.2.2.1
theorem tC.pa {V : VW} {S : CS} (h : tC V S) : ∀ k, k < V.n → S.2.1 21 k = nI (V.pa k) := h.2.2.2.2.2.2.2.2.2.2.2.2.2.2.2.2.2.2.2.1
theorem tC.ra {V : VW} {S : CS} (h : tC V S) : ∀ k, k < V.n → S.2.1 22 k = V.ra k := h.2.2.2.2.2.2.2.2.2.2.2.2.2.2.2.2.2.2.2.2.1
theorem tC.sk {V : VW} {S : CS} (h : tC V S) : ∀ k, k < V.n → S.2.1 23 k = V.sk k := h.2.2.2.2.2.2.2.2.2.2.2.2.2.2.2.2.2.2.2.2.2
/-- the reference's row of numbers -/
def tR (V : VW) (A : Nat → Int32) : Prop := (A 0 = nI V.ne) ∧ (A 1 = nI V.np) ∧ (A 2 = nI V.na) ∧ (A 3 = nI V.n) ∧ (A 4 = nI V.td) ∧ (∀ i, i < V.ne → A (5 + 2 * i) = V.e0 i) ∧ (∀ i, i < V.ne → A (5 + 2 * i + 1) = V.e1 i) ∧ (∀ i, i < V.np → A (17 + 2 * i) = V.p0 i) ∧ (∀ i, i < V.np → A (17 + 2 * i + 1) = V.p1 i) ∧ (∀ i, i < V.na → A (33 + 2 * i) = V.a0 i) ∧ (∀ i, i < V.na → A (33 + 2 * i + 1) = V.a1 i) ∧ (∀ k, k < V.n → A (65 + 11 * k + 0) = nI (V.ev k)) ∧ (∀ k, k < V.n → A (65 + 11 * k + 1) = nI (V.ath k)) ∧ (∀ k, k < V.n → A (65 + 11 * k + 2) = nI (V.pl k)) ∧ (∀ k, k < V.n → A (65 + 11 * k + 3) = nI (V.dy k)) ∧ (∀ k, k < V.n → A (65 + 11 * k + 4) = nI (V.mi k)) ∧ (∀ k, k < V.n → A (65 + 11 * k + 5) = nI (V.va k)) ∧ (∀ k, k < V.n → A (65 + 11 * k + 6) = V.wi k) ∧ (∀ k, k < V.n → A (65 + 11 * k + 7) = V.sh k) ∧ (∀ k, k < V.n → A (65 + 11 * k + 8) = nI (V.pa k)) ∧ (∀ k, k < V.n → A (65 + 11 * k + 9) = V.ra k) ∧ (∀ k, k < V.n → A (65 + 11 * k + 10) = V.sk k)
theorem tR.ne {V : VW} {A : Nat → Int32} (h : tR V A) : A 0 = nI V.ne := h.1
theorem tR.np {V : VW} {A : Nat → Int32} (h : tR V A) : A 1 = nI V.np := h.2.1
theorem tR.na {V : VW} {A : Nat → Int32} (h : tR V A) : A 2 = nI V.na := h.2.2.1
theorem tR.n {V : VW} {A : Nat → Int32} (h : tR V A) : A 3 = nI V.n := h.2.2.2.1
theorem tR.td {V : VW} {A : Nat → Int32} (h : tR V A) : A 4 = nI V.td := h.2.2.2.2.1
theorem tR.e0 {V : VW} {A : Nat → Int32} (h : tR V A) : ∀ i, i < V.ne → A (5 + 2 * i) = V.e0 i := h.2.2.2.2.2.1
theorem tR.e1 {V : VW} {A : Nat → Int32} (h : tR V A) : ∀ i, i < V.ne → A (5 + 2 * i + 1) = V.e1 i := h.2.2.2.2.2.2.1
theorem tR.p0 {V : VW} {A : Nat → Int32} (h : tR V A) : ∀ i, i < V.np → A (17 + 2 * i) = V.p0 i := h.2.2.2.2.2.2.2.1
theorem tR.p1 {V : VW} {A : Nat → Int32} (h : tR V A) : ∀ i, i < V.np → A (17 + 2 * i + 1) = V.p1 i := h.2.2.2.2.2.2.2.2.1
theorem tR.a0 {V : VW} {A : Nat → Int32} (h : tR V A) : ∀ i, i < V.na → A (33 + 2 * i) = V.a0 i := h.2.2.2.2.2.2.2.2.2.1
theorem tR.a1 {V : VW} {A : Nat → Int32} (h : tR V A) : ∀ i, i < V.na → A (33 + 2 * i + 1) = V.a1 i := h.2.2.2.2.2.2.2.2.2.2.1
theorem tR.ev {V : VW} {A : Nat → Int32} (h : tR V A) : ∀ k, k < V.n → A (65 + 11 * k + 0) = nI (V.ev k) := h.2.2.2.2.2.2.2.2.2.2.2.1
theorem tR.ath {V : VW} {A : Nat → Int32} (h : tR V A) : ∀ k, k < V.n → A (65 + 11 * k + 1) = nI (V.ath k) := h.2.2.2.2.2.2.2.2.2.2.2.2.1
theorem tR.pl {V : VW} {A : Nat → Int32} (h : tR V A) : ∀ k, k < V.n → A (65 + 11 * k + 2) = nI (V.pl k) := h.2.2.2.2.2.2.2.2.2.2.2.2.2.1
theorem tR.dy {V : VW} {A : Nat → Int32} (h : tR V A) : ∀ k, k < V.n → A (65 + 11 * k + 3) = nI (V.dy k) := h.2.2.2.2.2.2.2.2.2.2.2.2.2.2.1
theorem tR.mi {V : VW} {A : Nat → Int32} (h : tR V A) : ∀ k, k < V.n → A (65 + 11 * k + 4) = nI (V.mi k) := h.2.2.2.2.2.2.2.2.2.2.2.2.2.2.2.1
theorem tR.va {V : VW} {A : Nat → Int32} (h : tR V A) : ∀ k, k < V.n → A (65 + 11 * k + 5) = nI (V.va k) := h.2.2.2.2.2.2.2.2.2.2.2.2.2.2.2.2.1
theorem tR.wi {V : VW} {A : Nat → Int32} (h : tR V A) : ∀ k, k < V.n → A (65 + 11 * k + 6) = V.wi k := h.2.2.2.2.2.2.2.2.2.2.2.2.2.2.2.2.2.1
theorem tR.sh {V : VW} {A : Nat → Int32} (h : tR V A) : ∀ k, k < V.n → A (65 + 11 * k + 7) = V.sh k := h.2.2.2.2.2.2.2.2.2.2.2.2.2.2.2.2.2.2.1
theorem tR.pa {V : VW} {A : Nat → Int32} (h : tR V A) : ∀ k, k < V.n → A (65 + 11 * k + 8) = nI (V.pa k) := h.2.2.2.2.2.2.2.2.2.2.2.2.2.2.2.2.2.2.2.1
theorem tR.ra {V : VW} {A : Nat → Int32} (h : tR V A) : ∀ k, k < V.n → A (65 + 11 * k + 9) = V.ra k := h.2.2.2.2.2.2.2.2.2.2.2.2.2.2.2.2.2.2.2.2.1
theorem tR.sk {V : VW} {A : Nat → Int32} (h : tR V A) : ∀ k, k < V.n → A (65 + 11 * k + 10) = V.sk k := h.2.2.2.2.2.2.2.2.2.2.2.2.2.2.2.2.2.2.2.2.2
theorem bp_some {α ρ : Type} (x : α) (k : α → Option ρ) : bp (some x) k = k x := rfl
theorem bw_some {α σ ρ : Type} (x : α) (y : σ) (k : α → σ → Option ρ) : bw (some (x, y)) k = k x y := rfl
theorem lt_eq {α ρ : Type} (x : α) (k : α → Option ρ) : lt x k = k x := rfl
theorem chk_nI {ρ : Type} {k N : Nat} {F : Option ρ} (h : k < N) (hN : N < 2 ^ 31) : chk (nI k) N F = F := by
  unfold chk
  rw [nI_toInt (by omega), if_pos ⟨by omega, by omega⟩]
theorem chk_of {ρ : Type} {i : Int32} {k N : Nat} {F : Option ρ} (hi : i = nI k) (h : k < N) (hN : N < 2 ^ 31) : chk i N F = F := by rw [hi]; exact chk_nI h hN
theorem ifT {ρ : Type} {p : Prop} [Decidable p] (h : p) {x y : ρ} : (if p then x else y) = x := if_pos h
-- ages, scopes, standing
def vAge (V : VW) (k : Nat) : Int32 := (nI (V.dy k) - V.a0 (V.ath k)) / 365
def vStand (V : VW) (k : Nat) (d : Int32) : Bool := !(V.ra k == -1) && !decide (d < V.ra k) && (V.sk k == -1 || !decide (V.sk k ≤ d))
def vWith (V : VW) (k s : Nat) : Bool :=
  if s = 0 then true else if s < 7 then V.a1 (V.ath k) == nI s - 1 else if s < 15 then nI (V.pl k) == nI s - 7
  else if s < 18 then decide (vAge V k < (if s = 15 then 18 else if s = 16 then 20 else 23)) else !decide (vAge V k < 35 + 5 * (nI s - 18))
theorem m_of {M : MS} {k w : Nat} (hk : k < 60) (hw : w ≤ 10) : f_X12_of M (nI k) (nI w) = some (M.2 0 (65 + 11 * k + w)) := by
  have e : (65 : Int32) + 11 * nI k + nI w = nI (65 + 11 * k + w) := by
    rw [show (65 : Int32) = nI 65 from rfl, show (11 : Int32) = nI 11 from rfl, pk_mul, nI_add, nI_add]
  show chk (65 + 11 * nI k + nI w) 1177 (some (M.2 0 (65 + 11 * nI k + nI w).toNatClampNeg)) = _
  rw [e, chk_nI (by omega) (by decide), nI_clamp (by omega)]
theorem m_stand {V : VW} {M : MS} {k : Nat} {d : Int32} (hV : VOK V) (hM : tR V (M.2 0)) (hk : k < V.n) : f_X12_standsOn M (nI k) d = some (vStand V k d) := by
  have hk' : k < 60 := Nat.lt_of_lt_of_le hk hV.n
  unfold f_X12_standsOn
  have h9 : f_X12_of M (nI k) 9 = some (V.ra k) := by rw [← hM.ra k hk]; exact m_of hk' (by decide)
  have h10 : f_X12_of M (nI k) 10 = some (V.sk k) := by rw [← hM.sk k hk]; exact m_of hk' (by decide)
  simp only [h9, h10, bp_some]
  unfold vStand
  by_cases c1 : V.ra k = -1
  · simp [c1]
  · by_cases c2 : d < V.ra k
    · simp [c1, c2]
    · by_cases c3 : V.sk k = -1
      · simp [c1, c2, c3]
      · by_cases c4 : V.sk k ≤ d
        · simp [c1, c2, c3, c4]
        · simp [c1, c2, c3, c4]
theorem c_stand {V : VW} {S : CS} {k : Nat} {d : Int32} (hV : VOK V) (hS : tC V S) (hk : k < V.n) : f_X1_isStanding S (nI k) d = some (vStand V k d) := by
  have hk' : k < 60 := Nat.lt_of_lt_of_le hk hV.n
  unfold f_X1_isStanding
  simp only [chk_nI hk' (by decide), nI_clamp (show k < 2 ^ 31 by omega), hS.ra k hk, hS.sk k hk]
  unfold vStand
  by_cases c1 : V.ra k = -1
  · simp [c1]
  · by_cases c2 : d < V.ra k
    · simp [c1, c2]
    · by_cases c3 : V.sk k = -1
      · simp [c1, c2, c3]
      · by_cases c4 : V.sk k ≤ d
        · simp [c1, c2, c3, c4]
        · simp [c1, c2, c3, c4]
