/-! items: two fields, a mark's nine -/
theorem i_init {bb : Nat → Nat} {n : Nat} {V : VW} {S : CS} {M : MS} {p c : Nat} (v : Nat → Int32) (h : rdS bb n p S) (hm : rdM bb n p M) (hp : p < n) (hf : S.1 5 = M.1 7) : iI bb n V S M p c 0 0 (ci S 2 (S.1 2 + 1)) (si M 6 (M.1 6 + 1)) (p + 1) v :=
  ⟨⟨h.l, by show S.1 2 + 1 = _; rw [h.p, nI_1], h.b⟩, ⟨hm.l, by show M.1 6 + 1 = _; rw [hm.p, nI_1], hm.b⟩, by omega, hp, keepC_gI keepC_rf (gI_ci gI_rf (by decide)), fun i hi => absurd hi (Nat.not_lt_zero _), fI_si fI_rf (by decide), fun _ _ => rfl, fun i hi => absurd hi (Nat.not_lt_zero _), hf, fun i hi => absurd hi (Nat.not_lt_zero _), fun z => absurd z (Nat.lt_irrefl _)⟩
theorem rb_5 {V : VW} {c : Nat} : 5 ≤ rb V c := by
  unfold rb
  split
  · omega
  · split
    · omega
    · split <;> omega
def Fx2 (c : Nat) (M : MS) : MS := sa M 0 (upd (M.2 0) c (M.2 0 c + 1))
theorem i_two {bb : Nat → Nat} {n : Nat} {V : VW} {S0 : CS} {M0 : MS} {p0 c : Nat} {S : CS} {M : MS} {p : Nat} {v : Nat → Int32} {K : CS → Option (Bool × CS)} (ho : bbO bb n) (hV : VOK V) (hT : ∀ S', keepC V S0 S' → tC V S') (hc : c < 3) (hm : cnt V c < mx c) (h : iI bb n V S0 M0 p0 c 0 0 S M p v) (hA0 : M0.2 0 c = nI (cnt V c)) : iQ bb n V S0 M0 p0 c 2 K (fun _ => True) (L_X6_readItem_59 (nI V.td) (nI c) (nI (fO c)) K FU S (nI 0)) (bw (f_X12_readNumber M (nI (rb V c)) (loI c 0) (hiI V c 0)) (fun x3 S4 => if x3 = true then bw (f_X12_takes S4 44) (fun x5 S6 => if x5 = true then bw (f_X12_readNumber S6 (nI (rb V c) + 1) (loI c 1) (hiI V c 1)) (fun x7 S8 => if x7 = true then chk (nI c) 1177 (chk (nI c) 1177 (lt (sa S8 0 (upd (S8.2 0) (nI c).toNatClampNeg (S8.2 0 (nI c).toNatClampNeg + 1))) fun S9 => bw (f_X12_takes S9 59) (fun x10 S11 => some (x10, S11)))) else some (false, S8)) else some (false, S6)) else some (false, S4))) := by
  have hf : fO c = 2 := by unfold fO; rw [if_neg (by omega)]
  have h5 := rb_5 (V := V) (c := c)
  have e : (fun (x7 : Bool) (S8 : MS) => if x7 = true then chk (nI c) 1177 (chk (nI c) 1177 (lt (sa S8 0 (upd (S8.2 0) (nI c).toNatClampNeg (S8.2 0 (nI c).toNatClampNeg + 1))) fun S9 => bw (f_X12_takes S9 59) (fun x10 S11 => some (x10, S11)))) else some (false, S8)) = (fun x7 S8 => if x7 = true then bw (f_X12_takes (Fx2 c S8) 59) (fun x10 S11 => some (x10, S11)) else some (false, S8)) := by
    funext x7 S8
    rw [chk_nI (by omega) (by decide), chk_nI (by omega) (by decide), lt_eq, nI_clamp (by omega)]
    rfl
  rw [e, nI_1, FU_5]
  refine i_fst (j := 0) (KM := fun S6 => bw (f_X12_readNumber S6 (nI (rb V c + 1)) (loI c 1) (hiI V c 1)) (fun x7 S8 => if x7 = true then bw (f_X12_takes (Fx2 c S8) 59) (fun x10 S11 => some (x10, S11)) else some (false, S8))) ho hV hT (by omega) (by omega) hm h (fun S' M' p' v' h' => ?_)
  refine i_lst (j := 1) ho hV hT (by omega) hf.symm hm h' (fun M1 => fI_sa fI_rf (by decide)) ?_
  intro M1 M3 v1 a1 a2 a3
  have a3 : M3.2 0 = upd (M1.2 0) c (M1.2 0 c + 1) := a3
  rw [hf] at a1 a2 ⊢
  refine ⟨fun i hi hne => ?_, ?_, fun i hi => ?_, trivial⟩
  · rw [a3, pk_un hne]; exact a1 i hi
  · rw [a3, pk_us, a1 c (by omega), hA0, nI_1]
  · rw [a3, pk_un (by omega)]; exact a2 i hi
/-- a mark's bounds in the reference -/
theorem m_low {M : MS} {j : Nat} (hj : j < 9) : f_X12_lowOf M (nI j) = some (loI 3 j) := by
  unfold f_X12_lowOf
  match j, hj with
  | 0, _ => rfl
  | 1, _ => rfl
  | 2, _ => rfl
  | 3, _ => rfl
  | 4, _ => rfl
  | 5, _ => rfl
  | 6, _ => rfl
  | 7, _ => rfl
  | 8, _ => rfl
theorem m_high {V : VW} {M : MS} {j : Nat} (hj : j < 9) (h0 : M.2 0 0 = nI V.ne) (h1 : M.2 0 1 = nI V.np) (h2 : M.2 0 2 = nI V.na) (h4 : M.2 0 4 = nI V.td) : f_X12_highOf M (nI j) = some (hiI V 3 j) := by
  unfold f_X12_highOf
  have k0 : M.2 0 (0 : Int32).toNatClampNeg = nI V.ne := h0
  have k1 : M.2 0 (1 : Int32).toNatClampNeg = nI V.np := h1
  have k2 : M.2 0 (2 : Int32).toNatClampNeg = nI V.na := h2
  have k4 : M.2 0 (4 : Int32).toNatClampNeg = nI V.td := h4
  have q0 : ∀ {ρ : Type} (F : Option ρ), chk 0 1177 F = F := fun F => chk_nI (k := 0) (by decide) (by decide)
  have q1 : ∀ {ρ : Type} (F : Option ρ), chk 1 1177 F = F := fun F => chk_nI (k := 1) (by decide) (by decide)
  have q2 : ∀ {ρ : Type} (F : Option ρ), chk 2 1177 F = F := fun F => chk_nI (k := 2) (by decide) (by decide)
  have q4 : ∀ {ρ : Type} (F : Option ρ), chk 4 1177 F = F := fun F => chk_nI (k := 4) (by decide) (by decide)
  rw [q0, q1, q2, q4, k0, k1, k2, k4]
  match j, hj with
  | 0, _ => rfl
  | 1, _ => rfl
  | 2, _ => rfl
  | 3, _ => rfl
  | 4, _ => rfl
  | 5, _ => rfl
  | 6, _ => rfl
  | 7, _ => rfl
  | 8, _ => rfl
def mK (b j : Nat) (K : MS → Option (Bool × MS)) (m : Nat) (S9 : MS) : Option (Bool × MS) := bp (f_X12_lowOf S9 (nI j)) (fun x10 => bp (f_X12_highOf S9 (nI j)) (fun x11 => bw (f_X12_readNumber S9 (nI b + nI j) x10 x11) (fun x12 S13 => if x12 = true then L_X12_readMark_42 (nI b) K m S13 (nI (j + 1)) else some (false, S13))))
theorem m_m0 {b m j : Nat} {K : MS → Option (Bool × MS)} {M : MS} (hj : j ≤ 0) : L_X12_readMark_42 (nI b) K (m + 1) M (nI j) = mK b j K m M := by
  unfold L_X12_readMark_42 mK
  rw [lo2_succ]
  rw [if_neg (fun z => by rw [show (8 : Int32) = nI 8 from rfl, nI_ltI (by omega) (by omega)] at z; omega)]
  simp only [jn1]
  rw [if_pos (show nI j ≤ 0 from (nI_leI (b := 0) (by omega) (by omega)).mpr hj)]
  simp only [lt_eq, nI_1]
  rfl
theorem m_mj {b m j : Nat} {K : MS → Option (Bool × MS)} {M : MS} (hj : j + 1 < 9) : L_X12_readMark_42 (nI b) K (m + 1) M (nI (j + 1)) = bw (f_X12_takes M 44) (fun x17 S18 => if x17 = true then mK b (j + 1) K m S18 else some (false, S18)) := by
  unfold L_X12_readMark_42 mK
  rw [lo2_succ]
  rw [if_neg (fun z => by rw [show (8 : Int32) = nI 8 from rfl, nI_ltI (by omega) (by omega)] at z; omega)]
  simp only [jn1]
  rw [if_neg (fun z => by rw [show (0 : Int32) = nI 0 from rfl, nI_leI (by omega) (by omega)] at z; omega)]
  simp only [lt_eq, nI_1]
  rfl
theorem m_me {b m : Nat} {K : MS → Option (Bool × MS)} {M : MS} : L_X12_readMark_42 (nI b) K (m + 1) M (nI 9) = K M := by
  unfold L_X12_readMark_42
  rw [lo2_succ]
  rw [if_pos (by decide)]
