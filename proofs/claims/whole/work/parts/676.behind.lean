/-! needs: behind a test, the reference's turn in pieces -/
def btC (g : Nat) (S8 : MS) : Option (Int32 × MS) := bp (f_X12_here S8) (fun x9 => jn1 (fun (x10 : Int32) => chk (S8.1 16) 7 (lt (sa S8 15 (upd (S8.2 15) (S8.1 16).toNatClampNeg (vp_nar .boolean x10))) fun S11 => chk (S11.1 16) 7 ((if (S11.2 15 (S11.1 16).toNatClampNeg) = 0 then (if (S11.1 16) = 0 then some (0, S11) else bp (f_X12_here S11) (fun x12 => (if x12 = 41 then lt (si S11 6 ((S11.1 6) + 1)) fun S13 => lt (si S13 16 ((S13.1 16) - 1)) fun S14 => L_X12_behindTest_0 g S14 else lt (si S11 7 (S11.1 6)) fun S15 => some ((-1), S15)))) else some (1, S11))))) (fun k16 => (if x9 = 124 then k16 1 else k16 0)))
def btA (g : Nat) (S4 : MS) : Option (Int32 × MS) := bp (f_X12_here S4) (fun x5 => jn1 (fun (x6 : Int32) => chk (S4.1 16) 7 (lt (sa S4 14 (upd (S4.2 14) (S4.1 16).toNatClampNeg (vp_nar .boolean x6))) fun S7 => chk (S7.1 16) 7 ((if (S7.2 14 (S7.1 16).toNatClampNeg) = 0 then chk (S7.1 16) 7 (jn1 (btC g) (fun k18 => (if (S7.2 15 (S7.1 16).toNatClampNeg) = 0 then k18 S7 else bp (f_X12_does S7 20000124) (fun S20 => k18 S20)))) else some (1, S7))))) (fun k21 => (if x5 = 38 then k21 1 else k21 0)))
theorem e_bt {g : Nat} {M : MS} : L_X12_behindTest_0 (g + 1) M = jn0 (chk (M.1 16) 7 (jn1 (btA g) (fun k23 => (if (M.2 14 (M.1 16).toNatClampNeg) = 0 then k23 M else bp (f_X12_does M 20000038) (fun S25 => k23 S25))))) (fun k26 => (if (M.1 16) ≤ 0 then k26 else chk ((M.1 16) - 1) 7 ((if (M.2 13 ((M.1 16) - 1).toNatClampNeg) = 33 then bp (f_X12_does M 20000033) (fun S28 => lt (si S28 16 ((S28.1 16) - 1)) fun S29 => L_X12_behindTest_0 g S29) else k26)))) := rfl
theorem vb_0 : vp_nar .boolean 0 = 0 := rfl
theorem vb_1 : vp_nar .boolean 1 = 1 := rfl
theorem e_bt_n {g : Nat} {M : MS} {k : Nat} (h16 : M.1 16 = nI (k + 1)) (hk : k < 6) (h33 : M.2 13 k = 33) : L_X12_behindTest_0 (g + 1) M = bp (f_X12_does M 20000033) (fun S28 => L_X12_behindTest_0 g (si S28 16 ((S28.1 16) - 1))) := by
  rw [e_bt]
  unfold jn0
  dsimp only
  rw [h16, if_neg (nI_nle (by omega) (by omega)), nI_pred, chk_nI (by omega) (by decide), nI_clamp (by omega), h33, if_pos rfl]
  rfl
theorem e_bt_m {g : Nat} {M : MS} {k : Nat} (h16 : M.1 16 = nI k) (hk : k ≤ 6) (hno : k = 0 ∨ (0 < k ∧ ¬ M.2 13 (k - 1) = 33)) : L_X12_behindTest_0 (g + 1) M = (if M.2 14 k = 0 then btA g M else bp (f_X12_does M 20000038) (fun S25 => btA g S25)) := by
  rw [e_bt]
  unfold jn0 jn1
  dsimp only
  rw [h16, chk_nI (by omega) (by decide), nI_clamp (by omega)]
  rcases hno with rfl | ⟨h0, h33⟩
  · rw [if_pos (show nI 0 ≤ 0 by decide)]
  · obtain ⟨j, rfl⟩ : ∃ j, k = j + 1 := ⟨k - 1, by omega⟩
    have h33 : ¬ M.2 13 j = 33 := h33
    rw [if_neg (nI_nle (by omega) (by omega)), nI_pred, chk_nI (by omega) (by decide), nI_clamp (by omega), if_neg h33]
theorem e_btA_1 {g : Nat} {M : MS} {k : Nat} (h16 : M.1 16 = nI k) (hk : k ≤ 6) (hh : f_X12_here M = some 38) : btA g M = some (1, sa M 14 (upd (M.2 14) k 1)) := by
  unfold btA
  rw [hh, bp_some]
  unfold jn1
  dsimp only
  rw [if_pos rfl, h16, chk_nI (by omega) (by decide), nI_clamp (by omega), vb_1, lt_eq]
  rw [show (sa M 14 (upd (M.2 14) k 1)).1 16 = nI k from h16, chk_nI (by omega) (by decide), nI_clamp (by omega)]
  rw [if_neg (show ¬ (sa M 14 (upd (M.2 14) k 1)).2 14 k = 0 by show ¬ upd (M.2 14) k 1 k = 0; rw [pk_us]; decide)]
theorem e_btA_0 {g : Nat} {M : MS} {k : Nat} {x : Int32} (h16 : M.1 16 = nI k) (hk : k ≤ 6) (hh : f_X12_here M = some x) (hx : ¬ x = 38) : btA g M = (if M.2 15 k = 0 then btC g (sa M 14 (upd (M.2 14) k 0)) else bp (f_X12_does (sa M 14 (upd (M.2 14) k 0)) 20000124) (fun S20 => btC g S20)) := by
  unfold btA
  rw [hh, bp_some]
  unfold jn1
  dsimp only
  rw [if_neg hx, h16, chk_nI (by omega) (by decide), nI_clamp (by omega), vb_0, lt_eq]
  rw [show (sa M 14 (upd (M.2 14) k 0)).1 16 = nI k from h16, chk_nI (by omega) (by decide), nI_clamp (by omega), chk_nI (by omega) (by decide)]
  rw [if_pos (show (sa M 14 (upd (M.2 14) k 0)).2 14 k = 0 by show upd (M.2 14) k 0 k = 0; rw [pk_us])]
  rfl
theorem e_btC_1 {g : Nat} {M : MS} {k : Nat} (h16 : M.1 16 = nI k) (hk : k ≤ 6) (hh : f_X12_here M = some 124) : btC g M = some (1, sa M 15 (upd (M.2 15) k 1)) := by
  unfold btC
  rw [hh, bp_some]
  unfold jn1
  dsimp only
  rw [if_pos rfl, h16, chk_nI (by omega) (by decide), nI_clamp (by omega), vb_1, lt_eq]
  rw [show (sa M 15 (upd (M.2 15) k 1)).1 16 = nI k from h16, chk_nI (by omega) (by decide), nI_clamp (by omega)]
  rw [if_neg (show ¬ (sa M 15 (upd (M.2 15) k 1)).2 15 k = 0 by show ¬ upd (M.2 15) k 1 k = 0; rw [pk_us]; decide)]
theorem e_btC_0 {g : Nat} {M : MS} {k : Nat} {x : Int32} (h16 : M.1 16 = nI k) (hk : k ≤ 6) (hh : f_X12_here M = some x) (hx : ¬ x = 124) : btC g M = (if nI k = 0 then some (0, sa M 15 (upd (M.2 15) k 0)) else (if x = 41 then L_X12_behindTest_0 g (si (si (sa M 15 (upd (M.2 15) k 0)) 6 (M.1 6 + 1)) 16 (nI k - 1)) else some (-1, si (sa M 15 (upd (M.2 15) k 0)) 7 (M.1 6)))) := by
  have hh2 : f_X12_here (sa M 15 (upd (M.2 15) k 0)) = some x := hh
  unfold btC
  rw [hh, bp_some]
  unfold jn1
  dsimp only
  rw [if_neg hx, h16, chk_nI (by omega) (by decide), nI_clamp (by omega), vb_0, lt_eq]
  rw [show (sa M 15 (upd (M.2 15) k 0)).1 16 = nI k from h16, chk_nI (by omega) (by decide), nI_clamp (by omega)]
  rw [if_pos (show (sa M 15 (upd (M.2 15) k 0)).2 15 k = 0 by show upd (M.2 15) k 0 k = 0; rw [pk_us]), hh2, bp_some, lt_eq, lt_eq, lt_eq]
  rw [show (si (sa M 15 (upd (M.2 15) k 0)) 6 ((sa M 15 (upd (M.2 15) k 0)).1 6 + 1)).1 16 = nI k from h16]
  rfl
/-! the class behind a test -/
theorem bt_38 {S : CS} : f_X5_readBehindTest S (nI 38) = bp (f_X5_release S (nI 2)) (fun S2 => bw (f_X5_await S2 (nI 38) 0) (fun x3 S4 => some (x3, S4))) := by
  unfold f_X5_readBehindTest
  simp only [jn0]
  rw [if_pos (show nI 38 = 38 from rfl), c_strn (by decide), bp_some]
  rfl
theorem bt_124 {S : CS} : f_X5_readBehindTest S (nI 124) = bp (f_X5_release S (nI 1)) (fun S2 => bw (f_X5_await S2 (nI 124) 0) (fun x3 S4 => some (x3, S4))) := by
  unfold f_X5_readBehindTest
  simp only [jn0]
  rw [if_neg (show ¬ nI 124 = 38 by decide), if_neg (show ¬ nI 124 = 41 by decide), if_neg (show ¬ nI 124 = 59 by decide), if_pos (show nI 124 = 124 from rfl), c_strn (by decide), bp_some]
  rfl
theorem bt_41 {S : CS} : f_X5_readBehindTest S (nI 41) = f_X5_closeBracket S := by
  unfold f_X5_readBehindTest
  simp only [jn0]
  rw [if_neg (show ¬ nI 41 = 38 by decide), if_pos (show nI 41 = 41 from rfl), bw_id]
theorem bt_59 {S : CS} : f_X5_readBehindTest S (nI 59) = f_X5_closeCond S := by
  unfold f_X5_readBehindTest
  simp only [jn0]
  rw [if_neg (show ¬ nI 59 = 38 by decide), if_neg (show ¬ nI 59 = 41 by decide), if_pos (show nI 59 = 59 from rfl), bw_id]
section
variable {bb : Nat → Nat} {n : Nat} {Sb : CS} {Mb : MS}
theorem fR_rb {f : Nat} {S : CS} {t : Nat} {M : MS} {p : Nat} {cl : List Int32} {u w : List Nat} {T nst : Nat} (h : fR bb n Sb Mb f S t M p cl u w T nst) : fR bb n S M f S t M p cl u w T nst := ⟨h.s, h.m, h.hi, h.tp, h.fu, gI_rf, fI_rf, h.c0, h.ca, h.w0, h.wa, h.wb, h.ns, h.sT, h.mT, h.T6, h.mc, h.ma, h.fa⟩
theorem fR_M {f : Nat} {S : CS} {t : Nat} {M M' : MS} {p : Nat} {cl : List Int32} {u w : List Nat} {T nst : Nat} (h : fR bb n Sb Mb f S t M p cl u w T nst) (hf : fI [16] [13, 14, 15] M M') : fR bb n S M' f S t M' p cl u w T nst := ⟨h.s, rdM_fI h.m hf (by decide) (by decide) (by rw [hf.1 6 (by decide)]; exact h.m.p), h.hi, h.tp, h.fu, gI_rf, fI_rf, h.c0, h.ca, h.w0, h.wa, h.wb, h.ns, h.sT, by rw [hf.1 12 (by decide)]; exact h.mT, h.T6, by rw [hf.1 11 (by decide)]; exact h.mc, by rw [hf.2 9 (by decide)]; exact h.ma, by rw [hf.1 7 (by decide)]; exact h.fa⟩
theorem rel1 {f : Nat} {S : CS} {t : Nat} {M : MS} {p : Nat} {cl : List Int32} {u w : List Nat} {T nst : Nat} (h : fR bb n Sb Mb f S t M p cl u w T nst) (hw : topL 1 w) (hu : ∀ o, o ∈ u → 1 ≤ strn o) (h33 : c33 u ≤ nst) (hn : nst < 1000) (hcl : cl.length + u.length ≤ 500) (hl : (u ++ w).length ≤ 500) : ∃ S1, f_X5_release S 1 = some S1 ∧ gI [10, 11, 14] [27] S S1 ∧ S1.1 10 = nI (cl ++ ng u).length ∧ hC (S1.2.1 27) (cl ++ ng u) ∧ S1.1 11 = nI w.length ∧ S1.1 14 = nI (nst - c33 u) := by
  have hlw : (u ++ w).length = u.length + w.length := List.length_append
  obtain ⟨S1, q1, q2⟩ := c_rel (s := 1) (by decide) (by decide) hw u FU S cl nst (FU_gt (by omega)) h.c0 h.ca h.w0 h.wa h.wb hu h.ns h33 (by omega) (by omega) (by omega)
  exact ⟨S1, q1, q2⟩
end
theorem wL_t {o : Bool} {s : Nat} {r : List LV} : wL ((true, o, s) :: r) = 38 :: wL ((false, o, s) :: r) := by rw [wL_c, wL_c]; rfl
theorem wL_o {s : Nat} {r : List LV} : wL ((false, true, s) :: r) = 124 :: wL ((false, false, s) :: r) := by rw [wL_c, wL_c]; rfl
theorem wL_n {s : Nat} {y : LV} {r : List LV} : wL ((false, false, s) :: y :: r) = s :: wL (y :: r) := rfl
theorem cnt_t {a o : Bool} {s : Nat} {r : List LV} : cntL ((a, o, s) :: r) = bN a + bN o + cntL r := rfl
theorem aL_t {a o : Bool} {s : Nat} {r : List LV} : aL ((a, o, s) :: r) = bN a + bN o + aT s r := aL_c
theorem aT_c {s : Nat} {y : LV} {r : List LV} : aT s (y :: r) = (if s = 33 then 1 else 0) + aL (y :: r) := rfl
