theorem up_ne {α : Type} {f : Nat → α} {k j : Nat} {v : α} (h : ¬ j = k) : up f k v j = f j := if_neg h
theorem up_eq {α : Type} {f : Nat → α} {k : Nat} {v : α} : up f k v k = v := if_pos rfl
/-- what a reading's answer leaves -/
def jf {σ ρ : Type} (I : σ → Prop) (pr : ρ → σ) (F : Option ρ) : Prop := ∀ r, F = some r → I (pr r)
section KFR
variable {σ ρ α : Type} {I : σ → Prop} {pr : ρ → σ} {F F1 F2 : Option ρ}
theorem f_none : jf I pr none := fun _ h => by cases h
theorem f_some {r : ρ} (h : I (pr r)) : jf I pr (some r) := fun _ e => by cases e; exact h
theorem f_chk {i : Int32} {n : Nat} (h : jf I pr F) : jf I pr (chk i n F) := fun r e => h r (chk_in e).2
theorem f_nz {y : Int32} (h : jf I pr F) : jf I pr (nz y F) := fun r e => by
  unfold nz at e
  split at e
  · cases e
  · exact h r e
theorem f_ite {c : Prop} [Decidable c] (h1 : jf I pr F1) (h2 : jf I pr F2) : jf I pr (if c then F1 else F2) := fun r e => by
  split at e
  · exact h1 r e
  · exact h2 r e
theorem f_lt {x : α} {G : α → Option ρ} (h : ∀ x, jf I pr (G x)) : jf I pr (lt x G) := h x
theorem f_ltS {S : σ} {G : σ → Option ρ} (hS : I S) (h : ∀ S, I S → jf I pr (G S)) : jf I pr (lt S G) := h S hS
theorem f_bp {o : Option α} {G : α → Option ρ} (h : ∀ x, jf I pr (G x)) : jf I pr (bp o G) := fun r e => by
  cases o with
  | none => cases e
  | some x => exact h x r e
theorem f_bpS {o : Option σ} {G : σ → Option ρ} (ho : ∀ S, o = some S → I S) (h : ∀ S, I S → jf I pr (G S)) : jf I pr (bp o G) := fun r e => by
  cases o with
  | none => cases e
  | some x => exact h x (ho x rfl) r e
theorem f_bwS {o : Option (α × σ)} {G : α → σ → Option ρ} (ho : ∀ x S, o = some (x, S) → I S) (h : ∀ x S, I S → jf I pr (G x S)) : jf I pr (bw o G) := fun r e => by
  cases o with
  | none => cases e
  | some x => exact h x.1 x.2 (ho x.1 x.2 rfl) r e
theorem f_jm0  {S : σ} (hS : I S) {k : Option ρ} {f : (Option ρ) → Option ρ} (hk : I S → jf I pr (k )) (hf : ∀ k' : Option ρ, (I S → jf I pr (k' )) → jf I pr (f k')) : jf I pr (jn0 k f) := hf k hk
theorem f_lo1 {α1 : Type} {body : (α1 → Option ρ) → α1 → Option ρ} (sf : α1 → σ) (h : ∀ rec : α1 → Option ρ, (∀ (x1 : α1), I (sf x1) → jf I pr (rec x1)) → ∀ (x1 : α1), I (sf x1) → jf I pr (body rec x1)) : ∀ n : Nat, ∀ (x1 : α1), I (sf x1) → jf I pr (lo1 body n x1) := by
  intro n
  induction n with
  | zero => intro x1 _ r e; cases e
  | succ n ih => exact h _ ih
theorem f_jn1  {k : σ → Option ρ} {f : (σ → Option ρ) → Option ρ} (hk : ∀ (S : σ) , I S → jf I pr (k S )) (hf : ∀ k' : σ → Option ρ, (∀ (S : σ) , I S → jf I pr (k' S )) → jf I pr (f k')) : jf I pr (jn1 k f) := hf k hk
theorem f_jm1 {α1 : Type} {S : σ} (hS : I S) {k : α1 → Option ρ} {f : (α1 → Option ρ) → Option ρ} (hk : ∀ (x1 : α1), I S → jf I pr (k x1)) (hf : ∀ k' : α1 → Option ρ, (∀ (x1 : α1), I S → jf I pr (k' x1)) → jf I pr (f k')) : jf I pr (jn1 k f) := hf k hk
theorem f_lo2 {α1 α2 : Type} {body : (α1 → α2 → Option ρ) → α1 → α2 → Option ρ} (sf : α1 → α2 → σ) (h : ∀ rec : α1 → α2 → Option ρ, (∀ (x1 : α1) (x2 : α2), I (sf x1 x2) → jf I pr (rec x1 x2)) → ∀ (x1 : α1) (x2 : α2), I (sf x1 x2) → jf I pr (body rec x1 x2)) : ∀ n : Nat, ∀ (x1 : α1) (x2 : α2), I (sf x1 x2) → jf I pr (lo2 body n x1 x2) := by
  intro n
  induction n with
  | zero => intro x1 x2 _ r e; cases e
  | succ n ih => exact h _ ih
theorem f_jn2 {α2 : Type} {k : σ → α2 → Option ρ} {f : (σ → α2 → Option ρ) → Option ρ} (hk : ∀ (S : σ) (x2 : α2), I S → jf I pr (k S x2)) (hf : ∀ k' : σ → α2 → Option ρ, (∀ (S : σ) (x2 : α2), I S → jf I pr (k' S x2)) → jf I pr (f k')) : jf I pr (jn2 k f) := hf k hk
theorem f_jm2 {α1 α2 : Type} {S : σ} (hS : I S) {k : α1 → α2 → Option ρ} {f : (α1 → α2 → Option ρ) → Option ρ} (hk : ∀ (x1 : α1) (x2 : α2), I S → jf I pr (k x1 x2)) (hf : ∀ k' : α1 → α2 → Option ρ, (∀ (x1 : α1) (x2 : α2), I S → jf I pr (k' x1 x2)) → jf I pr (f k')) : jf I pr (jn2 k f) := hf k hk
theorem f_lo3 {α1 α2 α3 : Type} {body : (α1 → α2 → α3 → Option ρ) → α1 → α2 → α3 → Option ρ} (sf : α1 → α2 → α3 → σ) (h : ∀ rec : α1 → α2 → α3 → Option ρ, (∀ (x1 : α1) (x2 : α2) (x3 : α3), I (sf x1 x2 x3) → jf I pr (rec x1 x2 x3)) → ∀ (x1 : α1) (x2 : α2) (x3 : α3), I (sf x1 x2 x3) → jf I pr (body rec x1 x2 x3)) : ∀ n : Nat, ∀ (x1 : α1) (x2 : α2) (x3 : α3), I (sf x1 x2 x3) → jf I pr (lo3 body n x1 x2 x3) := by
  intro n
  induction n with
  | zero => intro x1 x2 x3 _ r e; cases e
  | succ n ih => exact h _ ih
theorem f_jn3 {α2 α3 : Type} {k : σ → α2 → α3 → Option ρ} {f : (σ → α2 → α3 → Option ρ) → Option ρ} (hk : ∀ (S : σ) (x2 : α2) (x3 : α3), I S → jf I pr (k S x2 x3)) (hf : ∀ k' : σ → α2 → α3 → Option ρ, (∀ (S : σ) (x2 : α2) (x3 : α3), I S → jf I pr (k' S x2 x3)) → jf I pr (f k')) : jf I pr (jn3 k f) := hf k hk
theorem f_jm3 {α1 α2 α3 : Type} {S : σ} (hS : I S) {k : α1 → α2 → α3 → Option ρ} {f : (α1 → α2 → α3 → Option ρ) → Option ρ} (hk : ∀ (x1 : α1) (x2 : α2) (x3 : α3), I S → jf I pr (k x1 x2 x3)) (hf : ∀ k' : α1 → α2 → α3 → Option ρ, (∀ (x1 : α1) (x2 : α2) (x3 : α3), I S → jf I pr (k' x1 x2 x3)) → jf I pr (f k')) : jf I pr (jn3 k f) := hf k hk
theorem f_lo4 {α1 α2 α3 α4 : Type} {body : (α1 → α2 → α3 → α4 → Option ρ) → α1 → α2 → α3 → α4 → Option ρ} (sf : α1 → α2 → α3 → α4 → σ) (h : ∀ rec : α1 → α2 → α3 → α4 → Option ρ, (∀ (x1 : α1) (x2 : α2) (x3 : α3) (x4 : α4), I (sf x1 x2 x3 x4) → jf I pr (rec x1 x2 x3 x4)) → ∀ (x1 : α1) (x2 : α2) (x3 : α3) (x4 : α4), I (sf x1 x2 x3 x4) → jf I pr (body rec x1 x2 x3 x4)) : ∀ n : Nat, ∀ (x1 : α1) (x2 : α2) (x3 : α3) (x4 : α4), I (sf x1 x2 x3 x4) → jf I pr (lo4 body n x1 x2 x3 x4) := by
  intro n
  induction n with
  | zero => intro x1 x2 x3 x4 _ r e; cases e
  | succ n ih => exact h _ ih
theorem f_jn4 {α2 α3 α4 : Type} {k : σ → α2 → α3 → α4 → Option ρ} {f : (σ → α2 → α3 → α4 → Option ρ) → Option ρ} (hk : ∀ (S : σ) (x2 : α2) (x3 : α3) (x4 : α4), I S → jf I pr (k S x2 x3 x4)) (hf : ∀ k' : σ → α2 → α3 → α4 → Option ρ, (∀ (S : σ) (x2 : α2) (x3 : α3) (x4 : α4), I S → jf I pr (k' S x2 x3 x4)) → jf I pr (f k')) : jf I pr (jn4 k f) := hf k hk
theorem f_jm4 {α1 α2 α3 α4 : Type} {S : σ} (hS : I S) {k : α1 → α2 → α3 → α4 → Option ρ} {f : (α1 → α2 → α3 → α4 → Option ρ) → Option ρ} (hk : ∀ (x1 : α1) (x2 : α2) (x3 : α3) (x4 : α4), I S → jf I pr (k x1 x2 x3 x4)) (hf : ∀ k' : α1 → α2 → α3 → α4 → Option ρ, (∀ (x1 : α1) (x2 : α2) (x3 : α3) (x4 : α4), I S → jf I pr (k' x1 x2 x3 x4)) → jf I pr (f k')) : jf I pr (jn4 k f) := hf k hk
theorem f_lo5 {α1 α2 α3 α4 α5 : Type} {body : (α1 → α2 → α3 → α4 → α5 → Option ρ) → α1 → α2 → α3 → α4 → α5 → Option ρ} (sf : α1 → α2 → α3 → α4 → α5 → σ) (h : ∀ rec : α1 → α2 → α3 → α4 → α5 → Option ρ, (∀ (x1 : α1) (x2 : α2) (x3 : α3) (x4 : α4) (x5 : α5), I (sf x1 x2 x3 x4 x5) → jf I pr (rec x1 x2 x3 x4 x5)) → ∀ (x1 : α1) (x2 : α2) (x3 : α3) (x4 : α4) (x5 : α5), I (sf x1 x2 x3 x4 x5) → jf I pr (body rec x1 x2 x3 x4 x5)) : ∀ n : Nat, ∀ (x1 : α1) (x2 : α2) (x3 : α3) (x4 : α4) (x5 : α5), I (sf x1 x2 x3 x4 x5) → jf I pr (lo5 body n x1 x2 x3 x4 x5) := by
  intro n
  induction n with
  | zero => intro x1 x2 x3 x4 x5 _ r e; cases e
  | succ n ih => exact h _ ih
theorem f_jn5 {α2 α3 α4 α5 : Type} {k : σ → α2 → α3 → α4 → α5 → Option ρ} {f : (σ → α2 → α3 → α4 → α5 → Option ρ) → Option ρ} (hk : ∀ (S : σ) (x2 : α2) (x3 : α3) (x4 : α4) (x5 : α5), I S → jf I pr (k S x2 x3 x4 x5)) (hf : ∀ k' : σ → α2 → α3 → α4 → α5 → Option ρ, (∀ (S : σ) (x2 : α2) (x3 : α3) (x4 : α4) (x5 : α5), I S → jf I pr (k' S x2 x3 x4 x5)) → jf I pr (f k')) : jf I pr (jn5 k f) := hf k hk
theorem f_jm5 {α1 α2 α3 α4 α5 : Type} {S : σ} (hS : I S) {k : α1 → α2 → α3 → α4 → α5 → Option ρ} {f : (α1 → α2 → α3 → α4 → α5 → Option ρ) → Option ρ} (hk : ∀ (x1 : α1) (x2 : α2) (x3 : α3) (x4 : α4) (x5 : α5), I S → jf I pr (k x1 x2 x3 x4 x5)) (hf : ∀ k' : α1 → α2 → α3 → α4 → α5 → Option ρ, (∀ (x1 : α1) (x2 : α2) (x3 : α3) (x4 : α4) (x5 : α5), I S → jf I pr (k' x1 x2 x3 x4 x5)) → jf I pr (f k')) : jf I pr (jn5 k f) := hf k hk
theorem f_lo6 {α1 α2 α3 α4 α5 α6 : Type} {body : (α1 → α2 → α3 → α4 → α5 → α6 → Option ρ) → α1 → α2 → α3 → α4 → α5 → α6 → Option ρ} (sf : α1 → α2 → α3 → α4 → α5 → α6 → σ) (h : ∀ rec : α1 → α2 → α3 → α4 → α5 → α6 → Option ρ, (∀ (x1 : α1) (x2 : α2) (x3 : α3) (x4 : α4) (x5 : α5) (x6 : α6), I (sf x1 x2 x3 x4 x5 x6) → jf I pr (rec x1 x2 x3 x4 x5 x6)) → ∀ (x1 : α1) (x2 : α2) (x3 : α3) (x4 : α4) (x5 : α5) (x6 : α6), I (sf x1 x2 x3 x4 x5 x6) → jf I pr (body rec x1 x2 x3 x4 x5 x6)) : ∀ n : Nat, ∀ (x1 : α1) (x2 : α2) (x3 : α3) (x4 : α4) (x5 : α5) (x6 : α6), I (sf x1 x2 x3 x4 x5 x6) → jf I pr (lo6 body n x1 x2 x3 x4 x5 x6) := by
  intro n
  induction n with
  | zero => intro x1 x2 x3 x4 x5 x6 _ r e; cases e
  | succ n ih => exact h _ ih
theorem f_jn6 {α2 α3 α4 α5 α6 : Type} {k : σ → α2 → α3 → α4 → α5 → α6 → Option ρ} {f : (σ → α2 → α3 → α4 → α5 → α6 → Option ρ) → Option ρ} (hk : ∀ (S : σ) (x2 : α2) (x3 : α3) (x4 : α4) (x5 : α5) (x6 : α6), I S → jf I pr (k S x2 x3 x4 x5 x6)) (hf : ∀ k' : σ → α2 → α3 → α4 → α5 → α6 → Option ρ, (∀ (S : σ) (x2 : α2) (x3 : α3) (x4 : α4) (x5 : α5) (x6 : α6), I S → jf I pr (k' S x2 x3 x4 x5 x6)) → jf I pr (f k')) : jf I pr (jn6 k f) := hf k hk
theorem f_jm6 {α1 α2 α3 α4 α5 α6 : Type} {S : σ} (hS : I S) {k : α1 → α2 → α3 → α4 → α5 → α6 → Option ρ} {f : (α1 → α2 → α3 → α4 → α5 → α6 → Option ρ) → Option ρ} (hk : ∀ (x1 : α1) (x2 : α2) (x3 : α3) (x4 : α4) (x5 : α5) (x6 : α6), I S → jf I pr (k x1 x2 x3 x4 x5 x6)) (hf : ∀ k' : α1 → α2 → α3 → α4 → α5 → α6 → Option ρ, (∀ (x1 : α1) (x2 : α2) (x3 : α3) (x4 : α4) (x5 : α5) (x6 : α6), I S → jf I pr (k' x1 x2 x3 x4 x5 x6)) → jf I pr (f k')) : jf I pr (jn6 k f) := hf k hk
theorem f_lo7 {α1 α2 α3 α4 α5 α6 α7 : Type} {body : (α1 → α2 → α3 → α4 → α5 → α6 → α7 → Option ρ) → α1 → α2 → α3 → α4 → α5 → α6 → α7 → Option ρ} (sf : α1 → α2 → α3 → α4 → α5 → α6 → α7 → σ) (h : ∀ rec : α1 → α2 → α3 → α4 → α5 → α6 → α7 → Option ρ, (∀ (x1 : α1) (x2 : α2) (x3 : α3) (x4 : α4) (x5 : α5) (x6 : α6) (x7 : α7), I (sf x1 x2 x3 x4 x5 x6 x7) → jf I pr (rec x1 x2 x3 x4 x5 x6 x7)) → ∀ (x1 : α1) (x2 : α2) (x3 : α3) (x4 : α4) (x5 : α5) (x6 : α6) (x7 : α7), I (sf x1 x2 x3 x4 x5 x6 x7) → jf I pr (body rec x1 x2 x3 x4 x5 x6 x7)) : ∀ n : Nat, ∀ (x1 : α1) (x2 : α2) (x3 : α3) (x4 : α4) (x5 : α5) (x6 : α6) (x7 : α7), I (sf x1 x2 x3 x4 x5 x6 x7) → jf I pr (lo7 body n x1 x2 x3 x4 x5 x6 x7) := by
  intro n
  induction n with
  | zero => intro x1 x2 x3 x4 x5 x6 x7 _ r e; cases e
  | succ n ih => exact h _ ih
theorem f_jn7 {α2 α3 α4 α5 α6 α7 : Type} {k : σ → α2 → α3 → α4 → α5 → α6 → α7 → Option ρ} {f : (σ → α2 → α3 → α4 → α5 → α6 → α7 → Option ρ) → Option ρ} (hk : ∀ (S : σ) (x2 : α2) (x3 : α3) (x4 : α4) (x5 : α5) (x6 : α6) (x7 : α7), I S → jf I pr (k S x2 x3 x4 x5 x6 x7)) (hf : ∀ k' : σ → α2 → α3 → α4 → α5 → α6 → α7 → Option ρ, (∀ (S : σ) (x2 : α2) (x3 : α3) (x4 : α4) (x5 : α5) (x6 : α6) (x7 : α7), I S → jf I pr (k' S x2 x3 x4 x5 x6 x7)) → jf I pr (f k')) : jf I pr (jn7 k f) := hf k hk
theorem f_jm7 {α1 α2 α3 α4 α5 α6 α7 : Type} {S : σ} (hS : I S) {k : α1 → α2 → α3 → α4 → α5 → α6 → α7 → Option ρ} {f : (α1 → α2 → α3 → α4 → α5 → α6 → α7 → Option ρ) → Option ρ} (hk : ∀ (x1 : α1) (x2 : α2) (x3 : α3) (x4 : α4) (x5 : α5) (x6 : α6) (x7 : α7), I S → jf I pr (k x1 x2 x3 x4 x5 x6 x7)) (hf : ∀ k' : α1 → α2 → α3 → α4 → α5 → α6 → α7 → Option ρ, (∀ (x1 : α1) (x2 : α2) (x3 : α3) (x4 : α4) (x5 : α5) (x6 : α6) (x7 : α7), I S → jf I pr (k' x1 x2 x3 x4 x5 x6 x7)) → jf I pr (f k')) : jf I pr (jn7 k f) := hf k hk
end KFR
