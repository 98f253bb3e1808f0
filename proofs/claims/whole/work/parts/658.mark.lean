/-! a mark is read -/
def Fx3 (b : Nat) (M : MS) : MS := sa (sa (sa M 0 (upd (M.2 0) (b + 9) (-1))) 0 (upd (upd (M.2 0) (b + 9) (-1)) (b + 10) (-1))) 0 (upd (upd (upd (M.2 0) (b + 9) (-1)) (b + 10) (-1)) 3 (upd (upd (M.2 0) (b + 9) (-1)) (b + 10) (-1) 3 + 1))
def hdr (V : VW) (A : Nat → Int32) : Prop := A 0 = nI V.ne ∧ A 1 = nI V.np ∧ A 2 = nI V.na ∧ A 3 = nI V.n ∧ A 4 = nI V.td
theorem mK_eq {V : VW} {b j m : Nat} {K : MS → Option (Bool × MS)} {M : MS} (hj : j < 9) (h : hdr V (M.2 0)) : mK b j K m M = bw (f_X12_readNumber M (nI (b + j)) (loI 3 j) (hiI V 3 j)) (fun x12 S13 => if x12 = true then L_X12_readMark_42 (nI b) K m S13 (nI (j + 1)) else some (false, S13)) := by
  unfold mK
  rw [m_low hj, bp_some, m_high hj h.1 h.2.1 h.2.2.1 h.2.2.2.2, bp_some, nI_add]
theorem iI_hdr {bb : Nat → Nat} {n : Nat} {V : VW} {S0 : CS} {M0 : MS} {p0 c jc jm : Nat} {S : CS} {M : MS} {p : Nat} {v : Nat → Int32} (h : iI bb n V S0 M0 p0 c jc jm S M p v) (h0 : hdr V (M0.2 0)) : hdr V (M.2 0) := by
  have h5 := rb_5 (V := V) (c := c)
  have g : ∀ i, i < 5 → M.2 0 i = M0.2 0 i := fun i hi => h.ag i (by omega)
  exact ⟨by rw [g 0 (by omega)]; exact h0.1, by rw [g 1 (by omega)]; exact h0.2.1, by rw [g 2 (by omega)]; exact h0.2.2.1, by rw [g 3 (by omega)]; exact h0.2.2.2.1, by rw [g 4 (by omega)]; exact h0.2.2.2.2⟩
theorem i_mark {bb : Nat → Nat} {n : Nat} {V : VW} {S0 : CS} {M0 : MS} {p0 f g : Nat} {K : CS → Option (Bool × CS)} {KM : MS → Option (Bool × MS)} (ho : bbO bb n) (hV : VOK V) (hT : ∀ S', keepC V S0 S' → tC V S') (hm : cnt V 3 < mx 3) (hA0 : hdr V (M0.2 0)) (hK : ∀ M, KM M = bw (f_X12_takes (Fx3 (rb V 3) M) 59) (fun x S => some (x, S))) : ∀ (d j : Nat) (S : CS) (M : MS) (p : Nat) (v : Nat → Int32), j + d = 8 → iI bb n V S0 M0 p0 3 j j S M p v → iQ bb n V S0 M0 p0 3 11 K (fun M3 => M3.2 0 (rb V 3 + 9) = -1 ∧ M3.2 0 (rb V 3 + 10) = -1) (L_X6_readItem_59 (nI V.td) (nI 3) (nI (fO 3)) K (f + d + 1 + 1) S (nI j)) (mK (rb V 3) j KM (g + d + 1) M) := by
  have h5 := rb_5 (V := V) (c := 3)
  have h9 : fO 3 = 9 := rfl
  intro d
  induction d with
  | zero =>
    intro j S M p v hj h
    have hj8 : j + 1 = 9 := by omega
    have e : (fun (x12 : Bool) (S13 : MS) => if x12 = true then L_X12_readMark_42 (nI (rb V 3)) KM (g + 0 + 1) S13 (nI (j + 1)) else some (false, S13)) = (fun x7 S8 => if x7 = true then bw (f_X12_takes (Fx3 (rb V 3) S8) 59) (fun x10 S11 => some (x10, S11)) else some (false, S8)) := by
      funext x12 S13
      rw [hj8, m_me, hK]
    rw [mK_eq (V := V) (by omega) (iI_hdr h hA0), e]
    refine i_lst (j := j) ho hV hT (by decide) hj8 hm h (fun M1 => fI_sa (fI_sa (fI_sa fI_rf (by decide)) (by decide)) (by decide)) ?_
    intro M1 M3 v1 a1 a2 a3
    have a3 : M3.2 0 = upd (upd (upd (M1.2 0) (rb V 3 + 9) (-1)) (rb V 3 + 10) (-1)) 3 (upd (upd (M1.2 0) (rb V 3 + 9) (-1)) (rb V 3 + 10) (-1) 3 + 1) := a3
    rw [h9] at a1 a2 ⊢
    refine ⟨fun i hi hne => ?_, ?_, fun i hi => ?_, ?_, ?_⟩
    · rw [a3, pk_un hne, pk_un (by omega), pk_un (by omega)]; exact a1 i (by omega)
    · rw [a3, pk_us, pk_un (by omega), pk_un (by omega), a1 3 (by omega), hA0.2.2.2.1, nI_1]; rfl
    · rw [a3, pk_un (by omega), pk_un (by omega), pk_un (by omega)]; exact a2 i hi
    · rw [a3, pk_un (by omega), pk_un (by omega), pk_us]
    · rw [a3, pk_un (by omega), pk_us]
  | succ d ih =>
    intro j S M p v hj h
    have hj8 : j + 1 < 9 := by omega
    have e : (fun (x12 : Bool) (S13 : MS) => if x12 = true then L_X12_readMark_42 (nI (rb V 3)) KM (g + (d + 1) + 1) S13 (nI (j + 1)) else some (false, S13)) = (fun x3 S4 => if x3 = true then bw (f_X12_takes S4 44) (fun x5 S6 => if x5 = true then mK (rb V 3) (j + 1) KM (g + d + 1) S6 else some (false, S6)) else some (false, S4)) := by
      funext x12 S13
      rw [show g + (d + 1) + 1 = (g + d + 1) + 1 by omega, m_mj hj8]
    rw [mK_eq (V := V) (by omega) (iI_hdr h hA0), e, show f + (d + 1) + 1 + 1 = (f + d + 1 + 1) + 1 by omega]
    exact i_fst (j := j) ho hV hT (by decide) hj8 hm h (fun S' M' p' v' h' => ih (j + 1) S' M' p' v' (by omega) h')
