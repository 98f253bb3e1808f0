/-! the class's whole state: what stands, and the deeds that can be taken back -/
abbrev FV : Type := Nat × (Nat → Int32) × Nat × (Nat → Int32) × (Nat → Int32) × Int32
abbrev DR : Type := Int32 × Int32 × Int32 × Int64 × Option FV
abbrev XS : Type := CS × List DR
abbrev DA : Type := Nat × (Nat × Nat × Nat × Nat) × DR
def fcv (g : KG) (f : Nat × Nat × Nat × Nat) (v : FV) : va_W := fcs g f.1 f.2.1 f.2.2.1 f.2.2.2 v.1 v.2.1 v.2.2.1 v.2.2.2.1 v.2.2.2.2.1 v.2.2.2.2.2
def dcs (g : KG) (d : DA) : va_W := match d.2.2.2.2.2.2 with
  | none => [dc d.1 d.2.2.1 d.2.2.2.1 d.2.2.2.2.1 d.2.2.2.2.2.1 none]
  | some v => dc d.1 d.2.2.1 d.2.2.2.1 d.2.2.2.2.1 d.2.2.2.2.2.1 (some d.2.1.1) :: fcv g d.2.1 v
def ring (nx : Nat) (rg : Nat → Option Nat) (DL : List DA) : Prop := DL.length ≤ 12 ∧ ∀ (j : Nat) (d : DA), DL[j]? = some d → rg ((nx + 11 - j) % 12) = some d.1
def cF (g : KG) (a0 : Nat) (T : XS) (w : va_W) : Prop := ∃ (q : Nat → Nat) (rg : Nat → Option Nat) (DL : List DA) (nx : Nat), q 0 = a0 ∧ w = cx g q (rc g q rg :: DL.flatMap (dcs g)) T.1 ∧ DL.map (fun d => d.2.2) = T.2 ∧ nx < 12 ∧ T.1.1 19 = nI nx ∧ T.1.1 20 = nI DL.length ∧ ring nx rg DL
def addd (d : DR) (l : List DR) : List DR := (d :: l).take 12
def xdl (d : Option DX) (l : List DR) : List DR := match d with
  | none => l
  | some d => addd (d.2.1, d.2.2.1, d.2.2.2.1, d.2.2.2.2, none) l
theorem nxt_nI {n : Nat} (h : n < 12) : nxt (nI n) = nI ((n + 1) % 12) := by
  unfold nxt
  rw [nI_1, show (12 : Int32) = nI 12 from rfl]
  exact pk_rem (by omega) (by omega) (by omega)
theorem szt_nI {n : Nat} (h : n ≤ 12) : szt (nI n) = nI (min (n + 1) 12) := by
  unfold szt
  rw [nI_1, show (12 : Int32) = nI 12 from rfl]
  by_cases h1 : n = 12
  · subst h1; rfl
  · rw [if_neg (nI_nlt (by omega) (by omega)), Nat.min_eq_left (by omega)]
theorem ring_add {nx : Nat} {rg : Nat → Option Nat} {DL : List DA} (hn : nx < 12) (h : ring nx rg DL) (d : DA) : ring ((nx + 1) % 12) (va_up rg nx (some d.1)) ((d :: DL).take 12) := by
  refine ⟨by rw [List.length_take]; omega, fun j e hj => ?_⟩
  have hj12 : j < 12 := by
    have := (List.getElem?_eq_some_iff.mp hj).1
    rw [List.length_take] at this
    omega
  rw [List.getElem?_take, if_pos hj12] at hj
  cases j with
  | zero =>
    have e1 : ((nx + 1) % 12 + 11 - 0) % 12 = nx := by omega
    rw [e1]
    cases hj
    exact if_pos rfl
  | succ j =>
    rw [List.getElem?_cons_succ] at hj
    have e1 : ((nx + 1) % 12 + 11 - (j + 1)) % 12 = (nx + 11 - j) % 12 := by omega
    have e2 : ¬ (nx + 11 - j) % 12 = nx := by omega
    rw [e1]
    exact (if_neg e2).trans (h.2 j e hj)
theorem ring_back {nx : Nat} {rg : Nat → Option Nat} {DL : List DA} {d : DA} (hn : nx < 12) (h : ring nx rg (d :: DL)) : ring ((nx + 11) % 12) rg DL ∧ rg ((nx + 11) % 12) = some d.1 := by
  refine ⟨⟨by have := h.1; simp at this; omega, fun j e hj => ?_⟩, h.2 0 d rfl⟩
  have hl : j < 12 := by
    have := (List.getElem?_eq_some_iff.mp hj).1
    have h2 := h.1
    simp at h2
    omega
  have e1 : ((nx + 11) % 12 + 11 - j) % 12 = (nx + 11 - (j + 1)) % 12 := by
    have h2 := (List.getElem?_eq_some_iff.mp hj).1
    have h3 := h.1
    simp at h3
    omega
  rw [e1]
  exact h.2 (j + 1) e (by rw [List.getElem?_cons_succ]; exact hj)
theorem cx_perm {g : KG} {q : Nat → Nat} {E E' l : va_W} {S : CS} (h : E.Perm (E' ++ l)) : (cx g q E S).Perm (cx g q E' S ++ l) := by
  rw [cx_app]
  exact List.Perm.append_left _ h
theorem cF_add {g : KG} {q : Nat → Nat} {rg : Nat → Option Nat} {DL : List DA} {nx : Nat} {dl : List DR} {S S' : CS} {w : va_W} (d : DA) (hDL : DL.map (fun d => d.2.2) = dl) (hnx : nx < 12) (e19 : S.1 19 = nI nx) (e20 : S.1 20 = nI DL.length) (hr : ring nx rg DL) (h19 : S'.1 19 = nxt (S.1 19)) (h20 : S'.1 20 = szt (S.1 20)) (hw : w = cx g q (rc g q (va_up rg nx (some d.1)) :: (dcs g d ++ DL.flatMap (dcs g))) S') : ∃ w' l', w.Perm (w' ++ l') ∧ cF g (q 0) (S', addd d.2.2 dl) w' := by
  refine ⟨cx g q (rc g q (va_up rg nx (some d.1)) :: ((d :: DL).take 12).flatMap (dcs g)) S', ((d :: DL).drop 12).flatMap (dcs g), ?_, q, va_up rg nx (some d.1), (d :: DL).take 12, (nx + 1) % 12, rfl, rfl, ?_, Nat.mod_lt _ (by decide), by rw [h19, e19]; exact nxt_nI hnx, ?_, ring_add hnx hr d⟩
  · rw [hw]
    refine cx_perm ?_
    rw [List.cons_append, ← List.flatMap_append, List.take_append_drop, List.flatMap_cons]
  · rw [List.map_take, List.map_cons, hDL]; rfl
  · rw [h20, e20, szt_nI hr.1, List.length_take, List.length_cons, Nat.min_comm]
section KXS
variable {g : KG} {a0 : Nat} {y : MethodName} {cc : ByteArray} {n mc ms : Nat} {ret : Option FieldType} {rm : Room} {As : List Value} {S : CS} {dl : List DR} {w0 : va_W}
theorem x_ofM {S' : CS} {o : Option Value} (hc : ∀ (q : Nat → Nat) (E : va_W) (l : Launch), kM l y cc n ret rm g (.ref (q 0) :: As) (cx g q E S) (cx g q E S') o mc ms) (hi : i1 S S') (h0 : cF g a0 (S, dl) w0) (l : Launch) : kMx l y cc n ret rm g (.ref a0 :: As) w0 (fun o' w => o' = o ∧ cF g a0 (S', dl) w) mc ms := by
  obtain ⟨q, rg, DL, nx, rfl, rfl, hDL, hnx, e19, e20, hr⟩ := h0
  exact (hc q _ l).x ⟨rfl, q, rg, DL, nx, rfl, rfl, hDL, hnx, hi.1.trans e19, hi.2.1.trans e20, hr⟩
theorem x_ofR {r : RX} (hc : ∀ (q : Nat → Nat) (rg : Nat → Option Nat) (D : va_W) (l : Launch), kMx l y cc n ret rm g (.ref (q 0) :: As) (cx g q (rc g q rg :: D) S) (pW g q rg D r) mc ms) (hi : okR S r) (h0 : cF g a0 (S, dl) w0) (l : Launch) : kMx l y cc n ret rm g (.ref a0 :: As) w0 (fun o' w => o' = some (.int r.1) ∧ cF g a0 (r.2.1, xdl r.2.2 dl) w) mc ms := by
  obtain ⟨q, rg, DL, nx, rfl, rfl, hDL, hnx, e19, e20, hr⟩ := h0
  refine (hc q rg _ l).less (fun o w hw => ?_)
  obtain ⟨ho, hw⟩ := hw
  unfold okR at hi
  cases hd : r.2.2 with
  | none =>
    rw [hd] at hi hw
    exact ⟨w, [], by rw [List.append_nil], ho, q, rg, DL, nx, rfl, hw, hDL, hnx, hi.1.trans e19, hi.2.1.trans e20, hr⟩
  | some d =>
    rw [hd] at hi hw
    obtain ⟨ad, hw⟩ := hw
    have hk : d.1.toNatClampNeg = nx := by rw [hi.1]; show (S.1 19).toNatClampNeg = nx; rw [show S.1 19 = nI nx from e19]; exact nI_clamp (by omega)
    rw [hk] at hw
    obtain ⟨w', l', h1, h2⟩ := cF_add (dl := dl) (ad, (0, 0, 0, 0), (d.2.1, d.2.2.1, d.2.2.2.1, d.2.2.2.2, none)) hDL hnx e19 e20 hr hi.2.1 hi.2.2.1 hw
    exact ⟨w', l', h1, ho, h2⟩
end KXS
def q4 (q : Nat → Nat) (k f0 f1 f2 f3 : Nat) : Nat → Nat := up (up (up (up q k f0) (k + 1) f1) (k + 2) f2) (k + 3) f3
def fset (S : CS) (k hs lc : Nat) (code : Nat → Int32) (le : Nat) (ends stack : Nat → Int32) (h : Int32) : CS := (up S.1 hs h, up (up (up S.2.1 (k + 1) code) (k + 2) ends) (k + 3) stack, up (up S.2.2 (k + 1) lc) (k + 2) le)
def ofv (S : CS) (k hs : Nat) : FV := (S.2.2 (k + 1), S.2.1 (k + 1), S.2.2 (k + 2), S.2.1 (k + 2), S.2.1 (k + 3), S.1 hs)
theorem k_pswap {P O Z R D F : va_W} : ((P ++ (O ++ Z)) ++ (R ++ (D ++ F))).Perm ((P ++ (F ++ Z)) ++ (R ++ (O ++ D))) := by
  simp only [List.append_assoc]
  refine List.Perm.append_left P ?_
  refine (List.Perm.append_left O (List.Perm.append_left Z (List.Perm.append_left R List.perm_append_comm))).trans ?_
  refine (List.Perm.append_left O (List.Perm.append_left Z (List.perm_append_comm_assoc R F D))).trans ?_
  refine (List.Perm.append_left O (List.perm_append_comm_assoc Z F (R ++ D))).trans ?_
  refine (List.perm_append_comm_assoc O F (Z ++ (R ++ D))).trans ?_
  refine List.Perm.append_left F ?_
  refine (List.perm_append_comm_assoc O Z (R ++ D)).trans ?_
  exact List.Perm.append_left Z (List.perm_append_comm_assoc O R D)
abbrev RN : Type := Int32 × CS × Option (Int32 × FV)
/-- the end of needs() and score(): k is the place of the formula in use, kd the kind of the deed -/
def pN (g : KG) (q : Nat → Nat) (rg : Nat → Option Nat) (D : va_W) (k : Nat) (kd : Int32) (r : RN) (o : Option Value) (w : va_W) : Prop := o = some (.int r.1) ∧ match r.2.2 with
  | none => w = cx g q (rc g q rg :: D) r.2.1
  | some d => ∃ q' ad, q' 0 = q 0 ∧ q' 35 = q 35 ∧ w = cx g q' (rc g q (va_up rg d.1.toNatClampNeg (some ad)) :: dc ad kd (-1) (-1) 0 (some (q k)) :: (fcv g (q k, q (k + 1), q (k + 2), q (k + 3)) d.2 ++ D)) r.2.1
def okN (S0 : CS) (r : RN) : Prop := match r.2.2 with
  | none => r.2.1.1 19 = S0.1 19 ∧ r.2.1.1 20 = S0.1 20
  | some d => d.1 = S0.1 19 ∧ r.2.1.1 19 = nxt (S0.1 19) ∧ r.2.1.1 20 = szt (S0.1 20)
def xn_needed (q : Nat → Nat) (n : Nat) (S : CS) : Nat × va_E := (q 0, .inr (11, [.ref (q 1), .ref (q 3), .ref (q 25), .ref (q 26), .ref (q 30), .ref (q 34), .ref (q 36), .ref (q 39), .ref (q 42), .ref (q 44), .ref n, .ref (q 49), .int (S.1 0)]))
theorem cw_needed {g : KG} {q : Nat → Nat} {S : CS} {f0 f1 f2 f3 lc le : Nat} {code ends stack : Nat → Int32} {h : Int32} : cw g (q4 q 45 f0 f1 f2 f3) (fset S 45 24 lc code le ends stack h) = xn_needed q f0 S :: ((((cw g q S).tail).take 43) ++ (fcs g f0 f1 f2 f3 lc code le ends stack h ++ (cw g q S).drop 48)) := rfl
theorem cw_needed_old {g : KG} {q : Nat → Nat} {S : CS} : (cw g q S).tail = (((cw g q S).tail).take 43) ++ (fcv g (q 45, q 46, q 47, q 48) (ofv S 45 24) ++ (cw g q S).drop 48) := rfl
abbrev rm_X11_needs : Room := { frames := 8, cells := 5, slots := 677, locals := 175 }
theorem kY_X11_needs : kY yX11_needs cX11_needs 2 (some .int) 0 := ⟨kw_1_1, kw_3_128, by decide, by decide, by decide +kernel⟩
def f_X11_needs (S : CS) : Option RN := bp (f_X10_beginReading S) (fun S1 => bp (f_X5_readNeeds S1) (fun r => lt (ci r.2 1 0) (fun S2 => match r.1 with
  | none => some (-1, S2, none)
  | some n => bp (f_X3_add S2) (fun S3 => lt (fset S3 45 24 n.1 (r.2.2.1 27) n.2 (r.2.2.1 29) (fun _ => 0) 0) (fun S4 => bp (f_X4_parts_nf S4) (fun p => some (p, S4, some (S2.1 19, ofv S3 45 24))))))))
set_option maxRecDepth 100000 in
set_option maxHeartbeats 4000000 in
theorem c_X11_needs {g : KG} {q : Nat → Nat} {rg : Nat → Option Nat} {D : va_W} {S : CS} {r : RN} (h : f_X11_needs S = some r) : ∀ l, kMx l yX11_needs cX11_needs 2 (some .int) rm_X11_needs g [.ref (q 0)] (cx g q (rc g q rg :: D) S) (pN g q rg D 45 1 r) 5 677 := by
  refine k_openx_i (own := "MarkChains") (by decide) rfl (Nat.le_of_ble_eq_true rfl) (fun X C hR => ?_)
  refine (?_ : jJ X g r (cx g q (rc g q rg :: D) S) 0 0 0 [(0, .ref (q 0))] [] (f_X11_needs S)) h
  unfold f_X11_needs
  refine r_aload_n (pc := 0) C dX11_needs_0 0 rfl ?_
  refine xg_x_tape (pc := 1) C kw_2_74 dX11_needs_1 ?_
  refine r_cVwv (As := []) (st := []) (wf := cx g q (rc g q rg :: D)) (pc := 4) C (fun _ h => c_X10_beginReading h) kY_X10_beginReading kw_2_135 kw_2_136 kw_2_134 rfl ⟨Nat.le_of_ble_eq_true rfl, Nat.le_of_ble_eq_true rfl⟩ rfl rfl ⟨Nat.zero_le _, Nat.zero_le _⟩ 1 rfl rfl rfl (Nat.le_of_ble_eq_true rfl) dX11_needs_4 (fun S1 => ?_)
  refine r_aload_n (pc := 7) C dX11_needs_7 0 rfl ?_
  refine xg_x_formulaReader (pc := 8) C kw_2_77 dX11_needs_8 ?_
  refine r_cVX (Φ := pF g q (rc g q rg :: D)) (As := []) (st := []) (mc := 4) (ms := 672) (pc := 11) C (fun _ h => c_X5_readNeeds h) kY_X5_readNeeds kw_3_130 kw_3_131 kw_3_129 rfl ⟨Nat.le_of_ble_eq_true rfl, Nat.le_of_ble_eq_true rfl⟩ rfl rfl ⟨Nat.le_of_ble_eq_true rfl, Nat.le_of_ble_eq_true rfl⟩ 26 rfl rfl rfl (Nat.le_of_ble_eq_true rfl) dX11_needs_11 (fun r1 o w hw => ?_)
  obtain ⟨r1, Sr⟩ := r1
  cases r1 with
  | none =>
    obtain ⟨rfl, rfl⟩ := hw
    refine r_astore_nN (pc := 14) C dX11_needs_14 (lv' := [(0, .ref (q 0)), (1, .null)]) (by decide) [1, 0] rfl ?_
    refine r_aload_n (pc := 15) C dX11_needs_15 0 rfl ?_
    refine xg_x_tape (pc := 16) C kw_2_74 dX11_needs_16 ?_
    refine r_iconst (pc := 19) C dX11_needs_19 (v := 0) (by decide) ?_
    refine xpN_tp_length (pc := 20) C knf_0 dX11_needs_20 (fun S2 => ?_)
    refine r_aload_nN (pc := 23) C dX11_needs_23 1 rfl ?_
    refine r_ifnonnullN (pc := 24) C dX11_needs_24 ?_
    refine r_iconst (pc := 27) C dX11_needs_27 (v := -1) (by decide) ?_
    refine r_widen (a' := 5) (b' := 677) (Nat.le_of_ble_eq_true rfl) (Nat.le_of_ble_eq_true rfl) ?_
    exact r_retX (Φ := pN g q rg D 45 1) hR ⟨rfl, rfl⟩ (pc := 28) dX11_needs_28
  | some n =>
    obtain ⟨f0, f1, f2, f3, rfl, rfl⟩ := hw
    refine r_weq cx_app ?_
    refine r_astore_n (pc := 14) C dX11_needs_14 (lv' := [(0, .ref (q 0)), (1, .ref f0)]) (by decide) [1, 0] rfl ?_
    refine r_aload_n (pc := 15) C dX11_needs_15 0 rfl ?_
    refine xg_x_tape (pc := 16) C kw_2_74 dX11_needs_16 ?_
    refine r_iconst (pc := 19) C dX11_needs_19 (v := 0) (by decide) ?_
    refine xpN_tp_length (pc := 20) C knf_0 dX11_needs_20 (fun S2 => ?_)
    refine r_aload_n (pc := 23) C dX11_needs_23 1 rfl ?_
    refine r_ifnonnullR 29 (pc := 24) C dX11_needs_24 (by decide) ?_
    refine r_aload_n (pc := 29) C dX11_needs_29 0 rfl ?_
    refine xg_x_deeds (pc := 30) C kw_2_79 dX11_needs_30 ?_
    refine r_new (pc := 33) (ci := 2) (fs := [.int 0, .int 0, .int 0, .long 0, .null]) C kin_X2 tyX2 tyX2_ok kw_3_92 kw_3_93 kw_1_19 rfl k_fs2 ⟨Nat.le_of_ble_eq_true rfl, Nat.le_of_ble_eq_true rfl⟩ dX11_needs_33 (fun ad => ?_)
    refine r_perm (ws' := cx g q (rc g q rg :: dz ad :: (D ++ fcs g f0 f1 f2 f3 n.1 (Sr.2.1 27) n.2 (Sr.2.1 29) (fun _ => 0) 0)) S2) k_pnew ?_
    refine r_dup (pc := 36) C dX11_needs_36 rfl ?_
    refine r_iconst (pc := 37) C dX11_needs_37 (v := 1) (by decide) ?_
    refine r_iconst (pc := 38) C dX11_needs_38 (v := -1) (by decide) ?_
    refine r_iconst (pc := 39) C dX11_needs_39 (v := -1) (by decide) ?_
    refine r_lconst (pc := 40) C dX11_needs_40 (v := 0) (by decide) ?_
    refine r_aload_n (pc := 41) C dX11_needs_41 0 rfl ?_
    refine xg_x_needed (pc := 42) C kw_2_84 dX11_needs_42 ?_
    refine r_cI0 (w1 := cx g q (rc g q rg :: dc ad 1 (-1) (-1) 0 (some (q 45)) :: (D ++ fcs g f0 f1 f2 f3 n.1 (Sr.2.1 27) n.2 (Sr.2.1 29) (fun _ => 0) 0)) S2) (As := [.int 1, .int (-1), .int (-1), .long 0, .ref (q 45)]) (st := [.ref ad, .ref (q 34)]) (pc := 45) C c_X2_initR kY_X2_init kw_3_95 rfl kw_3_94 rfl ⟨Nat.le_of_ble_eq_true rfl, Nat.le_of_ble_eq_true rfl⟩ rfl rfl ⟨Nat.le_of_ble_eq_true rfl, Nat.le_of_ble_eq_true rfl⟩ rfl (Nat.le_of_ble_eq_true rfl) dX11_needs_45 ?_
    refine r_callV (α := CS) (ov := fun _ => none) (wv := fun S3 => cx g q (rc g q (va_up rg (S2.1 19).toNatClampNeg (some ad)) :: dc ad 1 (-1) (-1) 0 (some (q 45)) :: (D ++ fcs g f0 f1 f2 f3 n.1 (Sr.2.1 27) n.2 (Sr.2.1 29) (fun _ => 0) 0)) S3) (mc := 0) (ms := 0) (As := [.ref ad]) (st := []) (pc := 48) C (fun _ h => c_X3_add h) kY_X3_add kw_3_121 kw_3_122 kw_3_120 rfl ⟨Nat.le_of_ble_eq_true rfl, Nat.le_of_ble_eq_true rfl⟩ rfl rfl ⟨Nat.le_of_ble_eq_true rfl, Nat.le_of_ble_eq_true rfl⟩ 34 rfl rfl rfl (Nat.le_of_ble_eq_true rfl) dX11_needs_48 (fun S3 => ?_)
    refine r_aload_n (pc := 51) C dX11_needs_51 0 rfl ?_
    refine r_aload_n (pc := 52) C dX11_needs_52 1 rfl ?_
    refine r_putR (pc := 53) (k := 10) (ty := .object "MarkChains$Formula") (ws' := xn_needed q f0 S3 :: ((cw g q S3).tail ++ (rc g q (va_up rg (S2.1 19).toNatClampNeg (some ad)) :: dc ad 1 (-1) (-1) 0 (some (q 45)) :: (D ++ fcs g f0 f1 f2 f3 n.1 (Sr.2.1 27) n.2 (Sr.2.1 29) (fun _ => 0) 0)))) C kin_X11 tyX11 tyX11_ok nmX11 kw_2_84 0 rfl rfl (by decide) rfl rfl (by decide +kernel) rfl rfl (Nat.le_of_ble_eq_true rfl) rfl dX11_needs_53 ?_
    refine r_perm (ws' := cx g (q4 q 45 f0 f1 f2 f3) (rc g q (va_up rg (S2.1 19).toNatClampNeg (some ad)) :: dc ad 1 (-1) (-1) 0 (some (q 45)) :: (fcv g (q 45, q 46, q 47, q 48) (ofv S3 45 24) ++ D)) (fset S3 45 24 n.1 (Sr.2.1 27) n.2 (Sr.2.1 29) (fun _ => 0) 0)) ?_ ?_
    · unfold cx
      rw [cw_needed, cw_needed_old, List.cons_append]
      exact List.Perm.cons _ (k_pswap (R := [rc g q (va_up rg (S2.1 19).toNatClampNeg (some ad)), dc ad 1 (-1) (-1) 0 (some (q 45))]))
    refine (?_ : ∀ S4, S4 = fset S3 45 24 n.1 (Sr.2.1 27) n.2 (Sr.2.1 29) (fun _ => 0) 0 → jJ X g r (cx g (q4 q 45 f0 f1 f2 f3) _ S4) _ _ _ _ _ ((fun S4 => bp (f_X4_parts_nf S4) (fun p => some (p, S4, some (S2.1 19, ofv S3 45 24)))) S4)) _ rfl
    intro S4 e4
    refine r_aload_n (pc := 56) C dX11_needs_56 0 rfl ?_
    refine xg_x_needed (q := q4 q 45 f0 f1 f2 f3) (pc := 57) C kw_2_84 dX11_needs_57 ?_
    refine r_cVpi (As := []) (st := []) (pc := 60) C (fun _ h => c_X4_parts_nf h) kY_X4_parts kw_3_217 kw_3_218 kw_3_216 rfl ⟨Nat.le_of_ble_eq_true rfl, Nat.le_of_ble_eq_true rfl⟩ rfl rfl ⟨Nat.le_of_ble_eq_true rfl, Nat.le_of_ble_eq_true rfl⟩ 44 rfl rfl rfl (Nat.le_of_ble_eq_true rfl) dX11_needs_60 (fun x => ?_)
    exact r_retX (Φ := pN g q rg D 45 1) hR ⟨rfl, q4 q 45 f0 f1 f2 f3, ad, rfl, rfl, rfl⟩ (pc := 63) dX11_needs_63
theorem w_X11_needs {S : CS} {r : RN} (h : f_X11_needs S = some r) : okN S r := by
  refine (?_ : jh (okN S) (f_X11_needs S)) _ h
  unfold f_X11_needs
  refine h_bpS (P := i1 S) (fun _ h => i1_tr i1_rf (w_X10_beginReading h) (by decide) (by decide)) (fun S1 h1 => ?_)
  refine h_bpS (P := fun r => i1 S r.2) (fun _ h => i1_tr h1 (w_X5_readNeeds h) (by decide) (by decide)) (fun r h2 => ?_)
  refine h_ltS (P := i1 S) (i1_ci h2 (by decide) (by decide)) (fun S2 h3 => ?_)
  split
  · exact h_some ⟨h3.1, h3.2.1⟩
  · refine h_bpS (P := i2 S) (fun _ h => i2_add h3 h) (fun S3 h4 => ?_)
    refine h_ltS (P := fun S4 : CS => S4.1 19 = nxt (S.1 19) ∧ S4.1 20 = szt (S.1 20)) ⟨h4.1, h4.2.1⟩ (fun S4 h5 => ?_)
    refine h_bp (fun p => ?_)
    exact h_some ⟨h3.1, h5⟩
def xn_scored (q : Nat → Nat) (n : Nat) (S : CS) : Nat × va_E := (q 0, .inr (11, [.ref (q 1), .ref (q 3), .ref (q 25), .ref (q 26), .ref (q 30), .ref (q 34), .ref (q 36), .ref (q 39), .ref (q 42), .ref (q 44), .ref (q 45), .ref n, .int (S.1 0)]))
theorem cw_scored {g : KG} {q : Nat → Nat} {S : CS} {f0 f1 f2 f3 lc le : Nat} {code ends stack : Nat → Int32} {h : Int32} : cw g (q4 q 49 f0 f1 f2 f3) (fset S 49 25 lc code le ends stack h) = xn_scored q f0 S :: ((((cw g q S).tail).take 47) ++ (fcs g f0 f1 f2 f3 lc code le ends stack h ++ (cw g q S).drop 52)) := rfl
theorem cw_scored_old {g : KG} {q : Nat → Nat} {S : CS} : (cw g q S).tail = (((cw g q S).tail).take 47) ++ (fcv g (q 49, q 50, q 51, q 52) (ofv S 49 25) ++ (cw g q S).drop 52) := rfl
abbrev rm_X11_score : Room := { frames := 6, cells := 5, slots := 677, locals := 152 }
theorem kY_X11_score : kY yX11_score cX11_score 2 (some .int) 0 := ⟨kw_1_1, kw_5_18, by decide, by decide, by decide +kernel⟩
def f_X11_score (S : CS) : Option RN := bp (f_X10_beginReading S) (fun S1 => bp (f_X5_readScore S1) (fun r => lt (ci r.2 1 0) (fun S2 => match r.1 with
  | none => some (-1, S2, none)
  | some n => bp (f_X3_add S2) (fun S3 => lt (fset S3 49 25 n.1 (r.2.2.1 27) n.2 (r.2.2.1 29) (fun _ => 0) 0) (fun S4 => some (S4.1 13, S4, some (S2.1 19, ofv S3 49 25)))))))
set_option maxRecDepth 100000 in
set_option maxHeartbeats 4000000 in
theorem c_X11_score {g : KG} {q : Nat → Nat} {rg : Nat → Option Nat} {D : va_W} {S : CS} {r : RN} (h : f_X11_score S = some r) : ∀ l, kMx l yX11_score cX11_score 2 (some .int) rm_X11_score g [.ref (q 0)] (cx g q (rc g q rg :: D) S) (pN g q rg D 49 2 r) 5 677 := by
  refine k_openx_i (own := "MarkChains") (by decide) rfl (Nat.le_of_ble_eq_true rfl) (fun X C hR => ?_)
  refine (?_ : jJ X g r (cx g q (rc g q rg :: D) S) 0 0 0 [(0, .ref (q 0))] [] (f_X11_score S)) h
  unfold f_X11_score
  refine r_aload_n (pc := 0) C dX11_score_0 0 rfl ?_
  refine xg_x_tape (pc := 1) C kw_2_74 dX11_score_1 ?_
  refine r_cVwv (As := []) (st := []) (wf := cx g q (rc g q rg :: D)) (pc := 4) C (fun _ h => c_X10_beginReading h) kY_X10_beginReading kw_2_135 kw_2_136 kw_2_134 rfl ⟨Nat.le_of_ble_eq_true rfl, Nat.le_of_ble_eq_true rfl⟩ rfl rfl ⟨Nat.zero_le _, Nat.zero_le _⟩ 1 rfl rfl rfl (Nat.le_of_ble_eq_true rfl) dX11_score_4 (fun S1 => ?_)
  refine r_aload_n (pc := 7) C dX11_score_7 0 rfl ?_
  refine xg_x_formulaReader (pc := 8) C kw_2_77 dX11_score_8 ?_
  refine r_cVX (Φ := pF g q (rc g q rg :: D)) (As := []) (st := []) (mc := 4) (ms := 672) (pc := 11) C (fun _ h => c_X5_readScore h) kY_X5_readScore kw_5_20 kw_5_21 kw_5_19 rfl ⟨Nat.le_of_ble_eq_true rfl, Nat.le_of_ble_eq_true rfl⟩ rfl rfl ⟨Nat.le_of_ble_eq_true rfl, Nat.le_of_ble_eq_true rfl⟩ 26 rfl rfl rfl (Nat.le_of_ble_eq_true rfl) dX11_score_11 (fun r1 o w hw => ?_)
  obtain ⟨r1, Sr⟩ := r1
  cases r1 with
  | none =>
    obtain ⟨rfl, rfl⟩ := hw
    refine r_astore_nN (pc := 14) C dX11_score_14 (lv' := [(0, .ref (q 0)), (1, .null)]) (by decide) [1, 0] rfl ?_
    refine r_aload_n (pc := 15) C dX11_score_15 0 rfl ?_
    refine xg_x_tape (pc := 16) C kw_2_74 dX11_score_16 ?_
    refine r_iconst (pc := 19) C dX11_score_19 (v := 0) (by decide) ?_
    refine xpN_tp_length (pc := 20) C knf_0 dX11_score_20 (fun S2 => ?_)
    refine r_aload_nN (pc := 23) C dX11_score_23 1 rfl ?_
    refine r_ifnonnullN (pc := 24) C dX11_score_24 ?_
    refine r_iconst (pc := 27) C dX11_score_27 (v := -1) (by decide) ?_
    refine r_widen (a' := 5) (b' := 677) (Nat.le_of_ble_eq_true rfl) (Nat.le_of_ble_eq_true rfl) ?_
    exact r_retX (Φ := pN g q rg D 49 2) hR ⟨rfl, rfl⟩ (pc := 28) dX11_score_28
  | some n =>
    obtain ⟨f0, f1, f2, f3, rfl, rfl⟩ := hw
    refine r_weq cx_app ?_
    refine r_astore_n (pc := 14) C dX11_score_14 (lv' := [(0, .ref (q 0)), (1, .ref f0)]) (by decide) [1, 0] rfl ?_
    refine r_aload_n (pc := 15) C dX11_score_15 0 rfl ?_
    refine xg_x_tape (pc := 16) C kw_2_74 dX11_score_16 ?_
    refine r_iconst (pc := 19) C dX11_score_19 (v := 0) (by decide) ?_
    refine xpN_tp_length (pc := 20) C knf_0 dX11_score_20 (fun S2 => ?_)
    refine r_aload_n (pc := 23) C dX11_score_23 1 rfl ?_
    refine r_ifnonnullR 29 (pc := 24) C dX11_score_24 (by decide) ?_
    refine r_aload_n (pc := 29) C dX11_score_29 0 rfl ?_
    refine xg_x_deeds (pc := 30) C kw_2_79 dX11_score_30 ?_
    refine r_new (pc := 33) (ci := 2) (fs := [.int 0, .int 0, .int 0, .long 0, .null]) C kin_X2 tyX2 tyX2_ok kw_3_92 kw_3_93 kw_1_19 rfl k_fs2 ⟨Nat.le_of_ble_eq_true rfl, Nat.le_of_ble_eq_true rfl⟩ dX11_score_33 (fun ad => ?_)
    refine r_perm (ws' := cx g q (rc g q rg :: dz ad :: (D ++ fcs g f0 f1 f2 f3 n.1 (Sr.2.1 27) n.2 (Sr.2.1 29) (fun _ => 0) 0)) S2) k_pnew ?_
    refine r_dup (pc := 36) C dX11_score_36 rfl ?_
    refine r_iconst (pc := 37) C dX11_score_37 (v := 2) (by decide) ?_
    refine r_iconst (pc := 38) C dX11_score_38 (v := -1) (by decide) ?_
    refine r_iconst (pc := 39) C dX11_score_39 (v := -1) (by decide) ?_
    refine r_lconst (pc := 40) C dX11_score_40 (v := 0) (by decide) ?_
    refine r_aload_n (pc := 41) C dX11_score_41 0 rfl ?_
    refine xg_x_scored (pc := 42) C kw_2_85 dX11_score_42 ?_
    refine r_cI0 (w1 := cx g q (rc g q rg :: dc ad 2 (-1) (-1) 0 (some (q 49)) :: (D ++ fcs g f0 f1 f2 f3 n.1 (Sr.2.1 27) n.2 (Sr.2.1 29) (fun _ => 0) 0)) S2) (As := [.int 2, .int (-1), .int (-1), .long 0, .ref (q 49)]) (st := [.ref ad, .ref (q 34)]) (pc := 45) C c_X2_initR kY_X2_init kw_3_95 rfl kw_3_94 rfl ⟨Nat.le_of_ble_eq_true rfl, Nat.le_of_ble_eq_true rfl⟩ rfl rfl ⟨Nat.le_of_ble_eq_true rfl, Nat.le_of_ble_eq_true rfl⟩ rfl (Nat.le_of_ble_eq_true rfl) dX11_score_45 ?_
    refine r_callV (α := CS) (ov := fun _ => none) (wv := fun S3 => cx g q (rc g q (va_up rg (S2.1 19).toNatClampNeg (some ad)) :: dc ad 2 (-1) (-1) 0 (some (q 49)) :: (D ++ fcs g f0 f1 f2 f3 n.1 (Sr.2.1 27) n.2 (Sr.2.1 29) (fun _ => 0) 0)) S3) (mc := 0) (ms := 0) (As := [.ref ad]) (st := []) (pc := 48) C (fun _ h => c_X3_add h) kY_X3_add kw_3_121 kw_3_122 kw_3_120 rfl ⟨Nat.le_of_ble_eq_true rfl, Nat.le_of_ble_eq_true rfl⟩ rfl rfl ⟨Nat.le_of_ble_eq_true rfl, Nat.le_of_ble_eq_true rfl⟩ 34 rfl rfl rfl (Nat.le_of_ble_eq_true rfl) dX11_score_48 (fun S3 => ?_)
    refine r_aload_n (pc := 51) C dX11_score_51 0 rfl ?_
    refine r_aload_n (pc := 52) C dX11_score_52 1 rfl ?_
    refine r_putR (pc := 53) (k := 11) (ty := .object "MarkChains$Formula") (ws' := xn_scored q f0 S3 :: ((cw g q S3).tail ++ (rc g q (va_up rg (S2.1 19).toNatClampNeg (some ad)) :: dc ad 2 (-1) (-1) 0 (some (q 49)) :: (D ++ fcs g f0 f1 f2 f3 n.1 (Sr.2.1 27) n.2 (Sr.2.1 29) (fun _ => 0) 0)))) C kin_X11 tyX11 tyX11_ok nmX11 kw_2_85 0 rfl rfl (by decide) rfl rfl (by decide +kernel) rfl rfl (Nat.le_of_ble_eq_true rfl) rfl dX11_score_53 ?_
    refine r_perm (ws' := cx g (q4 q 49 f0 f1 f2 f3) (rc g q (va_up rg (S2.1 19).toNatClampNeg (some ad)) :: dc ad 2 (-1) (-1) 0 (some (q 49)) :: (fcv g (q 49, q 50, q 51, q 52) (ofv S3 49 25) ++ D)) (fset S3 49 25 n.1 (Sr.2.1 27) n.2 (Sr.2.1 29) (fun _ => 0) 0)) ?_ ?_
    · unfold cx
      rw [cw_scored, cw_scored_old, List.cons_append]
      exact List.Perm.cons _ (k_pswap (R := [rc g q (va_up rg (S2.1 19).toNatClampNeg (some ad)), dc ad 2 (-1) (-1) 0 (some (q 49))]))
    refine (?_ : ∀ S4, S4 = fset S3 49 25 n.1 (Sr.2.1 27) n.2 (Sr.2.1 29) (fun _ => 0) 0 → jJ X g r (cx g (q4 q 49 f0 f1 f2 f3) _ S4) _ _ _ _ _ ((fun S4 => some (S4.1 13, S4, some (S2.1 19, ofv S3 49 25))) S4)) _ rfl
    intro S4 e4
    refine r_aload_n (pc := 56) C dX11_score_56 0 rfl ?_
    refine xg_x_formulaReader (q := q4 q 49 f0 f1 f2 f3) (pc := 57) C kw_2_77 dX11_score_57 ?_
    refine xgN_fr_things (q := q4 q 49 f0 f1 f2 f3) (pc := 60) C knf_31 dX11_score_60 ?_
    exact r_retX (Φ := pN g q rg D 49 2) hR ⟨rfl, q4 q 49 f0 f1 f2 f3, ad, rfl, rfl, rfl⟩ (pc := 63) dX11_score_63
theorem w_X11_score {S : CS} {r : RN} (h : f_X11_score S = some r) : okN S r := by
  refine (?_ : jh (okN S) (f_X11_score S)) _ h
  unfold f_X11_score
  refine h_bpS (P := i1 S) (fun _ h => i1_tr i1_rf (w_X10_beginReading h) (by decide) (by decide)) (fun S1 h1 => ?_)
  refine h_bpS (P := fun r => i1 S r.2) (fun _ h => i1_tr h1 (w_X5_readScore h) (by decide) (by decide)) (fun r h2 => ?_)
  refine h_ltS (P := i1 S) (i1_ci h2 (by decide) (by decide)) (fun S2 h3 => ?_)
  split
  · exact h_some ⟨h3.1, h3.2.1⟩
  · refine h_bpS (P := i2 S) (fun _ h => i2_add h3 h) (fun S3 h4 => ?_)
    refine h_ltS (P := fun S4 : CS => S4.1 19 = nxt (S.1 19) ∧ S4.1 20 = szt (S.1 20)) ⟨h4.1, h4.2.1⟩ (fun S4 h5 => ?_)
    skip
    exact h_some ⟨h3.1, h5⟩
