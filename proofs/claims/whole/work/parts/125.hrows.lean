def jh {ρ : Type} (ok : ρ → Prop) (F : Option ρ) : Prop := ∀ r, F = some r → ok r
section KHR
variable {σ ρ α : Type} {ok : ρ → Prop} {F F1 F2 : Option ρ}
theorem h_none : jh ok none := fun _ h => by cases h
theorem h_some {r : ρ} (h : ok r) : jh ok (some r) := fun _ e => by cases e; exact h
theorem h_chk {i : Int32} {n : Nat} (h : jh ok F) : jh ok (chk i n F) := fun r e => h r (chk_in e).2
theorem h_ite {c : Prop} [Decidable c] (h1 : jh ok F1) (h2 : jh ok F2) : jh ok (if c then F1 else F2) := fun r e => by
  split at e
  · exact h1 r e
  · exact h2 r e
theorem h_lt {x : α} {G : α → Option ρ} (h : ∀ x, jh ok (G x)) : jh ok (lt x G) := h x
theorem h_ltS {P : α → Prop} {x : α} {G : α → Option ρ} (hx : P x) (h : ∀ x, P x → jh ok (G x)) : jh ok (lt x G) := h x hx
theorem h_bp {o : Option α} {G : α → Option ρ} (h : ∀ x, jh ok (G x)) : jh ok (bp o G) := fun r e => by
  cases o with
  | none => cases e
  | some x => exact h x r e
theorem h_bpS {P : α → Prop} {o : Option α} {G : α → Option ρ} (ho : ∀ x, o = some x → P x) (h : ∀ x, P x → jh ok (G x)) : jh ok (bp o G) := fun r e => by
  cases o with
  | none => cases e
  | some x => exact h x (ho x rfl) r e
theorem h_bwS {P : σ → Prop} {o : Option (α × σ)} {G : α → σ → Option ρ} (ho : ∀ x S, o = some (x, S) → P S) (h : ∀ x S, P S → jh ok (G x S)) : jh ok (bw o G) := fun r e => by
  cases o with
  | none => cases e
  | some x => exact h x.1 x.2 (ho x.1 x.2 rfl) r e
theorem h_jm0  {P : σ → Prop} {S : σ} (hS : P S) {k : Option ρ} {f : (Option ρ) → Option ρ} (hk : P S → jh ok (k )) (hf : ∀ k' : Option ρ, (P S → jh ok (k' )) → jh ok (f k')) : jh ok (jn0 k f) := hf k hk
theorem h_lo1 {α1 : Type} {P : σ → Prop} {body : (α1 → Option ρ) → α1 → Option ρ} (sf : α1 → σ) (h : ∀ rec : α1 → Option ρ, (∀ (x1 : α1), P (sf x1) → jh ok (rec x1)) → ∀ (x1 : α1), P (sf x1) → jh ok (body rec x1)) : ∀ n : Nat, ∀ (x1 : α1), P (sf x1) → jh ok (lo1 body n x1) := by
  intro n
  induction n with
  | zero => intro x1 _ r e; cases e
  | succ n ih => exact h _ ih
theorem h_jn1  {P : σ → Prop} {k : σ → Option ρ} {f : (σ → Option ρ) → Option ρ} (hk : ∀ (S : σ) , P S → jh ok (k S )) (hf : ∀ k' : σ → Option ρ, (∀ (S : σ) , P S → jh ok (k' S )) → jh ok (f k')) : jh ok (jn1 k f) := hf k hk
theorem h_jm1 {α1 : Type} {P : σ → Prop} {S : σ} (hS : P S) {k : α1 → Option ρ} {f : (α1 → Option ρ) → Option ρ} (hk : ∀ (x1 : α1), P S → jh ok (k x1)) (hf : ∀ k' : α1 → Option ρ, (∀ (x1 : α1), P S → jh ok (k' x1)) → jh ok (f k')) : jh ok (jn1 k f) := hf k hk
theorem h_lo2 {α1 α2 : Type} {P : σ → Prop} {body : (α1 → α2 → Option ρ) → α1 → α2 → Option ρ} (sf : α1 → α2 → σ) (h : ∀ rec : α1 → α2 → Option ρ, (∀ (x1 : α1) (x2 : α2), P (sf x1 x2) → jh ok (rec x1 x2)) → ∀ (x1 : α1) (x2 : α2), P (sf x1 x2) → jh ok (body rec x1 x2)) : ∀ n : Nat, ∀ (x1 : α1) (x2 : α2), P (sf x1 x2) → jh ok (lo2 body n x1 x2) := by
  intro n
  induction n with
  | zero => intro x1 x2 _ r e; cases e
  | succ n ih => exact h _ ih
theorem h_jn2 {α2 : Type} {P : σ → Prop} {k : σ → α2 → Option ρ} {f : (σ → α2 → Option ρ) → Option ρ} (hk : ∀ (S : σ) (x2 : α2), P S → jh ok (k S x2)) (hf : ∀ k' : σ → α2 → Option ρ, (∀ (S : σ) (x2 : α2), P S → jh ok (k' S x2)) → jh ok (f k')) : jh ok (jn2 k f) := hf k hk
theorem h_jm2 {α1 α2 : Type} {P : σ → Prop} {S : σ} (hS : P S) {k : α1 → α2 → Option ρ} {f : (α1 → α2 → Option ρ) → Option ρ} (hk : ∀ (x1 : α1) (x2 : α2), P S → jh ok (k x1 x2)) (hf : ∀ k' : α1 → α2 → Option ρ, (∀ (x1 : α1) (x2 : α2), P S → jh ok (k' x1 x2)) → jh ok (f k')) : jh ok (jn2 k f) := hf k hk
theorem h_lo3 {α1 α2 α3 : Type} {P : σ → Prop} {body : (α1 → α2 → α3 → Option ρ) → α1 → α2 → α3 → Option ρ} (sf : α1 → α2 → α3 → σ) (h : ∀ rec : α1 → α2 → α3 → Option ρ, (∀ (x1 : α1) (x2 : α2) (x3 : α3), P (sf x1 x2 x3) → jh ok (rec x1 x2 x3)) → ∀ (x1 : α1) (x2 : α2) (x3 : α3), P (sf x1 x2 x3) → jh ok (body rec x1 x2 x3)) : ∀ n : Nat, ∀ (x1 : α1) (x2 : α2) (x3 : α3), P (sf x1 x2 x3) → jh ok (lo3 body n x1 x2 x3) := by
  intro n
  induction n with
  | zero => intro x1 x2 x3 _ r e; cases e
  | succ n ih => exact h _ ih
theorem h_jn3 {α2 α3 : Type} {P : σ → Prop} {k : σ → α2 → α3 → Option ρ} {f : (σ → α2 → α3 → Option ρ) → Option ρ} (hk : ∀ (S : σ) (x2 : α2) (x3 : α3), P S → jh ok (k S x2 x3)) (hf : ∀ k' : σ → α2 → α3 → Option ρ, (∀ (S : σ) (x2 : α2) (x3 : α3), P S → jh ok (k' S x2 x3)) → jh ok (f k')) : jh ok (jn3 k f) := hf k hk
theorem h_jm3 {α1 α2 α3 : Type} {P : σ → Prop} {S : σ} (hS : P S) {k : α1 → α2 → α3 → Option ρ} {f : (α1 → α2 → α3 → Option ρ) → Option ρ} (hk : ∀ (x1 : α1) (x2 : α2) (x3 : α3), P S → jh ok (k x1 x2 x3)) (hf : ∀ k' : α1 → α2 → α3 → Option ρ, (∀ (x1 : α1) (x2 : α2) (x3 : α3), P S → jh ok (k' x1 x2 x3)) → jh ok (f k')) : jh ok (jn3 k f) := hf k hk
theorem h_lo4 {α1 α2 α3 α4 : Type} {P : σ → Prop} {body : (α1 → α2 → α3 → α4 → Option ρ) → α1 → α2 → α3 → α4 → Option ρ} (sf : α1 → α2 → α3 → α4 → σ) (h : ∀ rec : α1 → α2 → α3 → α4 → Option ρ, (∀ (x1 : α1) (x2 : α2) (x3 : α3) (x4 : α4), P (sf x1 x2 x3 x4) → jh ok (rec x1 x2 x3 x4)) → ∀ (x1 : α1) (x2 : α2) (x3 : α3) (x4 : α4), P (sf x1 x2 x3 x4) → jh ok (body rec x1 x2 x3 x4)) : ∀ n : Nat, ∀ (x1 : α1) (x2 : α2) (x3 : α3) (x4 : α4), P (sf x1 x2 x3 x4) → jh ok (lo4 body n x1 x2 x3 x4) := by
  intro n
  induction n with
  | zero => intro x1 x2 x3 x4 _ r e; cases e
  | succ n ih => exact h _ ih
theorem h_jn4 {α2 α3 α4 : Type} {P : σ → Prop} {k : σ → α2 → α3 → α4 → Option ρ} {f : (σ → α2 → α3 → α4 → Option ρ) → Option ρ} (hk : ∀ (S : σ) (x2 : α2) (x3 : α3) (x4 : α4), P S → jh ok (k S x2 x3 x4)) (hf : ∀ k' : σ → α2 → α3 → α4 → Option ρ, (∀ (S : σ) (x2 : α2) (x3 : α3) (x4 : α4), P S → jh ok (k' S x2 x3 x4)) → jh ok (f k')) : jh ok (jn4 k f) := hf k hk
theorem h_jm4 {α1 α2 α3 α4 : Type} {P : σ → Prop} {S : σ} (hS : P S) {k : α1 → α2 → α3 → α4 → Option ρ} {f : (α1 → α2 → α3 → α4 → Option ρ) → Option ρ} (hk : ∀ (x1 : α1) (x2 : α2) (x3 : α3) (x4 : α4), P S → jh ok (k x1 x2 x3 x4)) (hf : ∀ k' : α1 → α2 → α3 → α4 → Option ρ, (∀ (x1 : α1) (x2 : α2) (x3 : α3) (x4 : α4), P S → jh ok (k' x1 x2 x3 x4)) → jh ok (f k')) : jh ok (jn4 k f) := hf k hk
theorem h_lo5 {α1 α2 α3 α4 α5 : Type} {P : σ → Prop} {body : (α1 → α2 → α3 → α4 → α5 → Option ρ) → α1 → α2 → α3 → α4 → α5 → Option ρ} (sf : α1 → α2 → α3 → α4 → α5 → σ) (h : ∀ rec : α1 → α2 → α3 → α4 → α5 → Option ρ, (∀ (x1 : α1) (x2 : α2) (x3 : α3) (x4 : α4) (x5 : α5), P (sf x1 x2 x3 x4 x5) → jh ok (rec x1 x2 x3 x4 x5)) → ∀ (x1 : α1) (x2 : α2) (x3 : α3) (x4 : α4) (x5 : α5), P (sf x1 x2 x3 x4 x5) → jh ok (body rec x1 x2 x3 x4 x5)) : ∀ n : Nat, ∀ (x1 : α1) (x2 : α2) (x3 : α3) (x4 : α4) (x5 : α5), P (sf x1 x2 x3 x4 x5) → jh ok (lo5 body n x1 x2 x3 x4 x5) := by
  intro n
  induction n with
  | zero => intro x1 x2 x3 x4 x5 _ r e; cases e
  | succ n ih => exact h _ ih
theorem h_jn5 {α2 α3 α4 α5 : Type} {P : σ → Prop} {k : σ → α2 → α3 → α4 → α5 → Option ρ} {f : (σ → α2 → α3 → α4 → α5 → Option ρ) → Option ρ} (hk : ∀ (S : σ) (x2 : α2) (x3 : α3) (x4 : α4) (x5 : α5), P S → jh ok (k S x2 x3 x4 x5)) (hf : ∀ k' : σ → α2 → α3 → α4 → α5 → Option ρ, (∀ (S : σ) (x2 : α2) (x3 : α3) (x4 : α4) (x5 : α5), P S → jh ok (k' S x2 x3 x4 x5)) → jh ok (f k')) : jh ok (jn5 k f) := hf k hk
theorem h_jm5 {α1 α2 α3 α4 α5 : Type} {P : σ → Prop} {S : σ} (hS : P S) {k : α1 → α2 → α3 → α4 → α5 → Option ρ} {f : (α1 → α2 → α3 → α4 → α5 → Option ρ) → Option ρ} (hk : ∀ (x1 : α1) (x2 : α2) (x3 : α3) (x4 : α4) (x5 : α5), P S → jh ok (k x1 x2 x3 x4 x5)) (hf : ∀ k' : α1 → α2 → α3 → α4 → α5 → Option ρ, (∀ (x1 : α1) (x2 : α2) (x3 : α3) (x4 : α4) (x5 : α5), P S → jh ok (k' x1 x2 x3 x4 x5)) → jh ok (f k')) : jh ok (jn5 k f) := hf k hk
theorem h_lo6 {α1 α2 α3 α4 α5 α6 : Type} {P : σ → Prop} {body : (α1 → α2 → α3 → α4 → α5 → α6 → Option ρ) → α1 → α2 → α3 → α4 → α5 → α6 → Option ρ} (sf : α1 → α2 → α3 → α4 → α5 → α6 → σ) (h : ∀ rec : α1 → α2 → α3 → α4 → α5 → α6 → Option ρ, (∀ (x1 : α1) (x2 : α2) (x3 : α3) (x4 : α4) (x5 : α5) (x6 : α6), P (sf x1 x2 x3 x4 x5 x6) → jh ok (rec x1 x2 x3 x4 x5 x6)) → ∀ (x1 : α1) (x2 : α2) (x3 : α3) (x4 : α4) (x5 : α5) (x6 : α6), P (sf x1 x2 x3 x4 x5 x6) → jh ok (body rec x1 x2 x3 x4 x5 x6)) : ∀ n : Nat, ∀ (x1 : α1) (x2 : α2) (x3 : α3) (x4 : α4) (x5 : α5) (x6 : α6), P (sf x1 x2 x3 x4 x5 x6) → jh ok (lo6 body n x1 x2 x3 x4 x5 x6) := by
  intro n
  induction n with
  | zero => intro x1 x2 x3 x4 x5 x6 _ r e; cases e
  | succ n ih => exact h _ ih
theorem h_jn6 {α2 α3 α4 α5 α6 : Type} {P : σ → Prop} {k : σ → α2 → α3 → α4 → α5 → α6 → Option ρ} {f : (σ → α2 → α3 → α4 → α5 → α6 → Option ρ) → Option ρ} (hk : ∀ (S : σ) (x2 : α2) (x3 : α3) (x4 : α4) (x5 : α5) (x6 : α6), P S → jh ok (k S x2 x3 x4 x5 x6)) (hf : ∀ k' : σ → α2 → α3 → α4 → α5 → α6 → Option ρ, (∀ (S : σ) (x2 : α2) (x3 : α3) (x4 : α4) (x5 : α5) (x6 : α6), P S → jh ok (k' S x2 x3 x4 x5 x6)) → jh ok (f k')) : jh ok (jn6 k f) := hf k hk
theorem h_jm6 {α1 α2 α3 α4 α5 α6 : Type} {P : σ → Prop} {S : σ} (hS : P S) {k : α1 → α2 → α3 → α4 → α5 → α6 → Option ρ} {f : (α1 → α2 → α3 → α4 → α5 → α6 → Option ρ) → Option ρ} (hk : ∀ (x1 : α1) (x2 : α2) (x3 : α3) (x4 : α4) (x5 : α5) (x6 : α6), P S → jh ok (k x1 x2 x3 x4 x5 x6)) (hf : ∀ k' : α1 → α2 → α3 → α4 → α5 → α6 → Option ρ, (∀ (x1 : α1) (x2 : α2) (x3 : α3) (x4 : α4) (x5 : α5) (x6 : α6), P S → jh ok (k' x1 x2 x3 x4 x5 x6)) → jh ok (f k')) : jh ok (jn6 k f) := hf k hk
theorem h_lo7 {α1 α2 α3 α4 α5 α6 α7 : Type} {P : σ → Prop} {body : (α1 → α2 → α3 → α4 → α5 → α6 → α7 → Option ρ) → α1 → α2 → α3 → α4 → α5 → α6 → α7 → Option ρ} (sf : α1 → α2 → α3 → α4 → α5 → α6 → α7 → σ) (h : ∀ rec : α1 → α2 → α3 → α4 → α5 → α6 → α7 → Option ρ, (∀ (x1 : α1) (x2 : α2) (x3 : α3) (x4 : α4) (x5 : α5) (x6 : α6) (x7 : α7), P (sf x1 x2 x3 x4 x5 x6 x7) → jh ok (rec x1 x2 x3 x4 x5 x6 x7)) → ∀ (x1 : α1) (x2 : α2) (x3 : α3) (x4 : α4) (x5 : α5) (x6 : α6) (x7 : α7), P (sf x1 x2 x3 x4 x5 x6 x7) → jh ok (body rec x1 x2 x3 x4 x5 x6 x7)) : ∀ n : Nat, ∀ (x1 : α1) (x2 : α2) (x3 : α3) (x4 : α4) (x5 : α5) (x6 : α6) (x7 : α7), P (sf x1 x2 x3 x4 x5 x6 x7) → jh ok (lo7 body n x1 x2 x3 x4 x5 x6 x7) := by
  intro n
  induction n with
  | zero => intro x1 x2 x3 x4 x5 x6 x7 _ r e; cases e
  | succ n ih => exact h _ ih
theorem h_jn7 {α2 α3 α4 α5 α6 α7 : Type} {P : σ → Prop} {k : σ → α2 → α3 → α4 → α5 → α6 → α7 → Option ρ} {f : (σ → α2 → α3 → α4 → α5 → α6 → α7 → Option ρ) → Option ρ} (hk : ∀ (S : σ) (x2 : α2) (x3 : α3) (x4 : α4) (x5 : α5) (x6 : α6) (x7 : α7), P S → jh ok (k S x2 x3 x4 x5 x6 x7)) (hf : ∀ k' : σ → α2 → α3 → α4 → α5 → α6 → α7 → Option ρ, (∀ (S : σ) (x2 : α2) (x3 : α3) (x4 : α4) (x5 : α5) (x6 : α6) (x7 : α7), P S → jh ok (k' S x2 x3 x4 x5 x6 x7)) → jh ok (f k')) : jh ok (jn7 k f) := hf k hk
theorem h_jm7 {α1 α2 α3 α4 α5 α6 α7 : Type} {P : σ → Prop} {S : σ} (hS : P S) {k : α1 → α2 → α3 → α4 → α5 → α6 → α7 → Option ρ} {f : (α1 → α2 → α3 → α4 → α5 → α6 → α7 → Option ρ) → Option ρ} (hk : ∀ (x1 : α1) (x2 : α2) (x3 : α3) (x4 : α4) (x5 : α5) (x6 : α6) (x7 : α7), P S → jh ok (k x1 x2 x3 x4 x5 x6 x7)) (hf : ∀ k' : α1 → α2 → α3 → α4 → α5 → α6 → α7 → Option ρ, (∀ (x1 : α1) (x2 : α2) (x3 : α3) (x4 : α4) (x5 : α5) (x6 : α6) (x7 : α7), P S → jh ok (k' x1 x2 x3 x4 x5 x6 x7)) → jh ok (f k')) : jh ok (jn7 k f) := hf k hk
end KHR
/-- the ring's numbers are as they were / one deed came -/
def i1 (S0 S : CS) : Prop := S.1 19 = S0.1 19 ∧ S.1 20 = S0.1 20 ∧ S.2.2 = S0.2.2
def nxt (x : Int32) : Int32 := x + 1 - (x + 1) / 12 * 12
def szt (x : Int32) : Int32 := if 12 < x + 1 then 12 else x + 1
def i2 (S0 S : CS) : Prop := S.1 19 = nxt (S0.1 19) ∧ S.1 20 = szt (S0.1 20) ∧ S.2.2 = S0.2.2
theorem i1_rf {S : CS} : i1 S S := ⟨rfl, rfl, rfl⟩
theorem i1_ci {S0 S : CS} {k : Nat} {v : Int32} (h : i1 S0 S) (h1 : ¬ 19 = k) (h2 : ¬ 20 = k) : i1 S0 (ci S k v) := ⟨(up_ne h1).trans h.1, (up_ne h2).trans h.2.1, h.2.2⟩
theorem i1_ca {S0 S : CS} {k : Nat} {f : Nat → Int32} (h : i1 S0 S) : i1 S0 (ca S k f) := ⟨h.1, h.2.1, h.2.2⟩
theorem i2_ci {S0 S : CS} {k : Nat} {v : Int32} (h : i2 S0 S) (h1 : ¬ 19 = k) (h2 : ¬ 20 = k) : i2 S0 (ci S k v) := ⟨(up_ne h1).trans h.1, (up_ne h2).trans h.2.1, h.2.2⟩
theorem i2_ca {S0 S : CS} {k : Nat} {f : Nat → Int32} (h : i2 S0 S) : i2 S0 (ca S k f) := ⟨h.1, h.2.1, h.2.2⟩
theorem i1_tr {S0 S S1 : CS} {ks ka : List Nat} (h : i1 S0 S) (h2 : gI ks ka S S1) (h3 : 19 ∉ ks) (h4 : 20 ∉ ks) : i1 S0 S1 := ⟨(h2.1 19 h3).trans h.1, (h2.1 20 h4).trans h.2.1, h2.2.2.trans h.2.2⟩
theorem i2_tr {S0 S S1 : CS} {ks ka : List Nat} (h : i2 S0 S) (h2 : gI ks ka S S1) (h3 : 19 ∉ ks) (h4 : 20 ∉ ks) : i2 S0 S1 := ⟨(h2.1 19 h3).trans h.1, (h2.1 20 h4).trans h.2.1, h2.2.2.trans h.2.2⟩
theorem i2_add {S0 S S1 : CS} (h : i1 S0 S) (e : f_X3_add S = some S1) : i2 S0 S1 := by
  unfold f_X3_add at e
  have e := (chk_in e).2
  have e2 : ci (ci S 19 ((S.1 19) + 1 - ((S.1 19) + 1) / 12 * 12)) 20 (if 12 < ((ci S 19 ((S.1 19) + 1 - ((S.1 19) + 1) / 12 * 12)).1 20) + 1 then 12 else ((ci S 19 ((S.1 19) + 1 - ((S.1 19) + 1) / 12 * 12)).1 20) + 1) = S1 := Option.some.inj e
  subst e2
  obtain ⟨h1, h2, h3⟩ := h
  refine ⟨?_, ?_, h3⟩
  · show nxt (S.1 19) = _
    rw [h1]
  · show szt (S.1 20) = _
    rw [h2]
/-- what a method that may do a deed leaves in the ring's numbers -/
def okR (S0 : CS) (r : RX) : Prop := match r.2.2 with
  | none => i1 S0 r.2.1
  | some d => d.1 = S0.1 19 ∧ i2 S0 r.2.1
