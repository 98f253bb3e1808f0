def xdn (kd : Int32) (d : Option (Int32 × FV)) (l : List DR) : List DR := match d with
  | none => l
  | some d => addd (kd, -1, -1, 0, some d.2) l
theorem rc_q {g : KG} {q q' : Nat → Nat} {rg : Nat → Option Nat} (h : q' 35 = q 35) : rc g q rg = rc g q' rg := by
  unfold rc; rw [h]
theorem x_ofN {g : KG} {a0 : Nat} {y : MethodName} {cc : ByteArray} {n mc ms k : Nat} {kd : Int32} {ret : Option FieldType} {rm : Room} {As : List Value} {S : CS} {dl : List DR} {w0 : va_W} {r : RN} (hc : ∀ (q : Nat → Nat) (rg : Nat → Option Nat) (D : va_W) (l : Launch), kMx l y cc n ret rm g (.ref (q 0) :: As) (cx g q (rc g q rg :: D) S) (pN g q rg D k kd r) mc ms) (hi : okN S r) (h0 : cF g a0 (S, dl) w0) (l : Launch) : kMx l y cc n ret rm g (.ref a0 :: As) w0 (fun o' w => o' = some (.int r.1) ∧ cF g a0 (r.2.1, xdn kd r.2.2 dl) w) mc ms := by
  obtain ⟨q, rg, DL, nx, rfl, rfl, hDL, hnx, e19, e20, hr⟩ := h0
  refine (hc q rg _ l).less (fun o w hw => ?_)
  obtain ⟨ho, hw⟩ := hw
  unfold okN at hi
  cases hd : r.2.2 with
  | none =>
    rw [hd] at hi hw
    exact ⟨w, [], by rw [List.append_nil], ho, q, rg, DL, nx, rfl, hw, hDL, hnx, hi.1.trans e19, hi.2.trans e20, hr⟩
  | some d =>
    rw [hd] at hi hw
    obtain ⟨q', ad, h0, h35, hw⟩ := hw
    have hk : d.1.toNatClampNeg = nx := by rw [hi.1]; show (S.1 19).toNatClampNeg = nx; rw [show S.1 19 = nI nx from e19]; exact nI_clamp (by omega)
    rw [hk, rc_q h35] at hw
    obtain ⟨w', l', h1, h2⟩ := cF_add (q := q') (dl := dl) (ad, (q k, q (k + 1), q (k + 2), q (k + 3)), (kd, -1, -1, 0, some d.2)) hDL hnx e19 e20 hr hi.2.1 hi.2.2 hw
    rw [h0] at h2
    exact ⟨w', l', h1, ho, h2⟩
def pU (g : KG) (q : Nat → Nat) (rg : Nat → Option Nat) (D : va_W) (r : CS) (o : Option Value) (w : va_W) : Prop := o = none ∧ ∃ q' : Nat → Nat, q' 0 = q 0 ∧ q' 35 = q 35 ∧ w = cx g q' (rc g q rg :: D) r
abbrev rm_X11_undo : Room := { frames := 2, cells := 0, slots := 0, locals := 46 }
theorem kY_X11_undo : kY yX11_undo cX11_undo 2 none 1 := ⟨kw_1_1, kw_5_216, by decide, by decide, by decide +kernel⟩
theorem k_pswap2 {P O Z D F : va_W} {r d : Nat × va_E} : ((P ++ (O ++ Z)) ++ (r :: d :: (F ++ D))).Perm (((P ++ (F ++ Z)) ++ (r :: D)) ++ (d :: O)) := by
  have h1 : ((P ++ (O ++ Z)) ++ ([r, d] ++ (D ++ F))).Perm ((P ++ (F ++ Z)) ++ ([r, d] ++ (O ++ D))) := k_pswap
  refine (List.Perm.append_left (P ++ (O ++ Z)) (List.Perm.cons r (List.Perm.cons d (List.perm_append_comm)))).trans (h1.trans ?_)
  rw [List.append_assoc (P ++ (F ++ Z))]
  refine List.Perm.append_left _ (List.Perm.cons r ?_)
  show (d :: (O ++ D)).Perm (D ++ (d :: O))
  refine (List.Perm.cons d List.perm_append_comm).trans ?_
  exact List.perm_middle.symm
theorem k_pdrop {g : KG} {q : Nat → Nat} {R c : Nat × va_E} {D : va_W} {S : CS} : (cx g q (R :: c :: D) S).Perm (cx g q (R :: D) S ++ [c]) := k_pnew.symm
def f_X11_undo_0 (S : CS) (bits : Int64) : Option CS :=
  bp (f_X1_cutToSizes S bits) (fun S1 =>
  some S1)
set_option maxRecDepth 100000 in
set_option maxHeartbeats 4000000 in
theorem c_X11_undo_0 {g : KG} {q : Nat → Nat} {rg : Nat → Option Nat} {D : va_W} {S r : CS} {ad : Nat} {w o : Int32} {bits : Int64} (h : f_X11_undo_0 S bits = some r) : ∀ l, kMx l yX11_undo cX11_undo 2 none rm_X11_undo g [.ref (q 0), .ref ad] (cx g q (rc g q rg :: dc ad 0 w o bits none :: D) S) (pU g q rg D r) 0 0 := by
  refine k_openx_v (own := "MarkChains") (by decide) rfl (Nat.le_of_ble_eq_true rfl) (fun X C hR => ?_)
  refine (?_ : jJ X g r (cx g q (rc g q rg :: dc ad 0 w o bits none :: D) S) 0 0 0 [(0, .ref (q 0)), (1, .ref ad)] [] (f_X11_undo_0 S bits)) h
  unfold f_X11_undo_0
  refine r_aload_n (pc := 0) C dX11_undo_0 1 rfl ?_
  refine r_getN (k := 0) (pc := 1) C kin_X2 knf_40 53 rfl rfl (by decide) rfl rfl dX11_undo_1 ?_
  refine r_tabIn (off := 40) (v := 0) 44 (pc := 4) C dX11_undo_4 rfl (by decide) (by decide) (by decide) (by decide) ?_
  refine r_aload_n (pc := 44) C dX11_undo_44 0 rfl ?_
  refine xg_x_book (pc := 45) C kw_2_75 dX11_undo_45 ?_
  refine r_aload_n (pc := 48) C dX11_undo_48 1 rfl ?_
  refine r_getN (k := 3) (pc := 49) C kin_X2 knf_43 53 rfl rfl (by decide) rfl rfl dX11_undo_49 ?_
  refine r_cVwv (As := [.long bits]) (st := []) (wf := cx g q (rc g q rg :: dc ad 0 w o bits none :: D)) (pc := 52) C (fun _ h => c_X1_cutToSizes h) kY_X1_cutToSizes kw_3_87 kw_3_88 kw_3_86 rfl ⟨Nat.le_of_ble_eq_true rfl, Nat.le_of_ble_eq_true rfl⟩ rfl rfl ⟨Nat.zero_le _, Nat.zero_le _⟩ 3 rfl rfl rfl (Nat.le_of_ble_eq_true rfl) dX11_undo_52 (fun S1 => ?_)
  refine r_goto 193 (pc := 55) C dX11_undo_55 (by decide) ?_
  refine r_drop (ws' := cx g q (rc g q rg :: D) S1) (l' := [dc ad 0 w o bits none]) k_pdrop ?_
  exact r_retXv (Φ := pU g q rg D) hR ⟨rfl, q, rfl, rfl, rfl⟩ (pc := 193) dX11_undo_193
set_option maxRecDepth 100000 in
theorem w_X11_undo_0 {S r : CS} {bits : Int64} (h : f_X11_undo_0 S bits = some r) : gI [6, 7, 8, 9] [24] S r := by
  have hS : gI [6, 7, 8, 9] [24] S S := gI_rf
  refine (?_ : jf (gI [6, 7, 8, 9] [24] S) id (f_X11_undo_0 S bits)) _ h
  unfold f_X11_undo_0
  refine f_bpS (fun _ h => gI_tr hS (w_X1_cutToSizes h) (by decide) (by decide)) (fun S1 hS1 => ?_)
  exact f_some hS1
def f_X11_undo_3 (S : CS) (w : Int32) : Option CS :=
  bp (f_X1_hasMark S w) (fun x1 =>
  (if x1 = true then
  chk w 60 (lt (ca S 22 (upd (S.2.1 22) w.toNatClampNeg (-1))) fun S2 =>
  some S2)
 else
  some S))
set_option maxRecDepth 100000 in
set_option maxHeartbeats 4000000 in
theorem c_X11_undo_3 {g : KG} {q : Nat → Nat} {rg : Nat → Option Nat} {D : va_W} {S r : CS} {ad : Nat} {w o : Int32} {bits : Int64} (h : f_X11_undo_3 S w = some r) : ∀ l, kMx l yX11_undo cX11_undo 2 none rm_X11_undo g [.ref (q 0), .ref ad] (cx g q (rc g q rg :: dc ad 3 w o bits none :: D) S) (pU g q rg D r) 0 0 := by
  refine k_openx_v (own := "MarkChains") (by decide) rfl (Nat.le_of_ble_eq_true rfl) (fun X C hR => ?_)
  refine (?_ : jJ X g r (cx g q (rc g q rg :: dc ad 3 w o bits none :: D) S) 0 0 0 [(0, .ref (q 0)), (1, .ref ad)] [] (f_X11_undo_3 S w)) h
  unfold f_X11_undo_3
  refine r_aload_n (pc := 0) C dX11_undo_0 1 rfl ?_
  refine r_getN (k := 0) (pc := 1) C kin_X2 knf_40 53 rfl rfl (by decide) rfl rfl dX11_undo_1 ?_
  refine r_tabIn (off := 104) (v := 3) 108 (pc := 4) C dX11_undo_4 rfl (by decide) (by decide) (by decide) (by decide) ?_
  refine r_aload_n (pc := 108) C dX11_undo_108 0 rfl ?_
  refine xg_x_book (pc := 109) C kw_2_75 dX11_undo_109 ?_
  refine r_aload_n (pc := 112) C dX11_undo_112 1 rfl ?_
  refine r_getN (k := 1) (pc := 113) C kin_X2 knf_41 53 rfl rfl (by decide) rfl rfl dX11_undo_113 ?_
  refine r_cVpz (As := [.int w]) (st := []) (pc := 116) C (fun _ h => c_X1_hasMark h) kY_X1_hasMark kw_4_44 kw_4_45 kw_4_43 rfl ⟨Nat.le_of_ble_eq_true rfl, Nat.le_of_ble_eq_true rfl⟩ rfl rfl ⟨Nat.zero_le _, Nat.zero_le _⟩ 3 rfl rfl rfl (Nat.le_of_ble_eq_true rfl) dX11_undo_116 (fun x1 => ?_)
  refine r_ifb_eq 193 (pc := 119) C dX11_undo_119 (by decide) ?_ ?_
  · refine r_drop (ws' := cx g q (rc g q rg :: D) S) (l' := [dc ad 3 w o bits none]) k_pdrop ?_
    exact r_retXv (Φ := pU g q rg D) hR ⟨rfl, q, rfl, rfl, rfl⟩ (pc := 193) dX11_undo_193
  · refine r_aload_n (pc := 122) C dX11_undo_122 0 rfl ?_
    refine xg_x_book (pc := 123) C kw_2_75 dX11_undo_123 ?_
    refine xgN_bk_ratified (pc := 126) C knf_26 dX11_undo_126 ?_
    refine r_aload_n (pc := 129) C dX11_undo_129 1 rfl ?_
    refine r_getN (k := 1) (pc := 130) C kin_X2 knf_41 53 rfl rfl (by decide) rfl rfl dX11_undo_130 ?_
    refine r_iconst (pc := 133) C dX11_undo_133 (v := (-1)) (by decide) ?_
    refine xs_bk_ratified (pc := 134) C dX11_undo_134 (fun S2 => ?_)
    refine r_goto 193 (pc := 135) C dX11_undo_135 (by decide) ?_
    refine r_drop (ws' := cx g q (rc g q rg :: D) S2) (l' := [dc ad 3 w o bits none]) k_pdrop ?_
    exact r_retXv (Φ := pU g q rg D) hR ⟨rfl, q, rfl, rfl, rfl⟩ (pc := 193) dX11_undo_193
set_option maxRecDepth 100000 in
theorem w_X11_undo_3 {S r : CS} {w : Int32} (h : f_X11_undo_3 S w = some r) : gI [] [22] S r := by
  have hS : gI [] [22] S S := gI_rf
  refine (?_ : jf (gI [] [22] S) id (f_X11_undo_3 S w)) _ h
  unfold f_X11_undo_3
  refine f_bp (fun x1 => ?_)
  refine f_ite ?_ ?_
  · refine f_chk (f_ltS (gI_ca hS (by decide)) (fun S2 hS2 => ?_))
    exact f_some hS2
  · exact f_some hS
def f_X11_undo_4 (S : CS) (bits : Int64) : Option CS :=
  bp (f_X1_unstrike S bits) (fun S1 =>
  some S1)
set_option maxRecDepth 100000 in
set_option maxHeartbeats 4000000 in
theorem c_X11_undo_4 {g : KG} {q : Nat → Nat} {rg : Nat → Option Nat} {D : va_W} {S r : CS} {ad : Nat} {w o : Int32} {bits : Int64} (h : f_X11_undo_4 S bits = some r) : ∀ l, kMx l yX11_undo cX11_undo 2 none rm_X11_undo g [.ref (q 0), .ref ad] (cx g q (rc g q rg :: dc ad 4 w o bits none :: D) S) (pU g q rg D r) 0 0 := by
  refine k_openx_v (own := "MarkChains") (by decide) rfl (Nat.le_of_ble_eq_true rfl) (fun X C hR => ?_)
  refine (?_ : jJ X g r (cx g q (rc g q rg :: dc ad 4 w o bits none :: D) S) 0 0 0 [(0, .ref (q 0)), (1, .ref ad)] [] (f_X11_undo_4 S bits)) h
  unfold f_X11_undo_4
  refine r_aload_n (pc := 0) C dX11_undo_0 1 rfl ?_
  refine r_getN (k := 0) (pc := 1) C kin_X2 knf_40 53 rfl rfl (by decide) rfl rfl dX11_undo_1 ?_
  refine r_tabIn (off := 134) (v := 4) 138 (pc := 4) C dX11_undo_4 rfl (by decide) (by decide) (by decide) (by decide) ?_
  refine r_aload_n (pc := 138) C dX11_undo_138 0 rfl ?_
  refine xg_x_book (pc := 139) C kw_2_75 dX11_undo_139 ?_
  refine r_aload_n (pc := 142) C dX11_undo_142 1 rfl ?_
  refine r_getN (k := 3) (pc := 143) C kin_X2 knf_43 53 rfl rfl (by decide) rfl rfl dX11_undo_143 ?_
  refine r_cVwv (As := [.long bits]) (st := []) (wf := cx g q (rc g q rg :: dc ad 4 w o bits none :: D)) (pc := 146) C (fun _ h => c_X1_unstrike h) kY_X1_unstrike kw_5_218 kw_5_219 kw_5_217 rfl ⟨Nat.le_of_ble_eq_true rfl, Nat.le_of_ble_eq_true rfl⟩ rfl rfl ⟨Nat.zero_le _, Nat.zero_le _⟩ 3 rfl rfl rfl (Nat.le_of_ble_eq_true rfl) dX11_undo_146 (fun S1 => ?_)
  refine r_goto 193 (pc := 149) C dX11_undo_149 (by decide) ?_
  refine r_drop (ws' := cx g q (rc g q rg :: D) S1) (l' := [dc ad 4 w o bits none]) k_pdrop ?_
  exact r_retXv (Φ := pU g q rg D) hR ⟨rfl, q, rfl, rfl, rfl⟩ (pc := 193) dX11_undo_193
set_option maxRecDepth 100000 in
theorem w_X11_undo_4 {S r : CS} {bits : Int64} (h : f_X11_undo_4 S bits = some r) : gI [] [23] S r := by
  have hS : gI [] [23] S S := gI_rf
  refine (?_ : jf (gI [] [23] S) id (f_X11_undo_4 S bits)) _ h
  unfold f_X11_undo_4
  refine f_bpS (fun _ h => gI_tr hS (w_X1_unstrike h) (by decide) (by decide)) (fun S1 hS1 => ?_)
  exact f_some hS1
def f_X11_undo_5 (S : CS) (w : Int32) (o : Int32) : Option CS :=
  bp (f_X1_hasMark S w) (fun x1 =>
  (if x1 = true then
  chk w 60 (lt (ca S 21 (upd (S.2.1 21) w.toNatClampNeg o)) fun S2 =>
  some S2)
 else
  some S))
set_option maxRecDepth 100000 in
set_option maxHeartbeats 4000000 in
theorem c_X11_undo_5 {g : KG} {q : Nat → Nat} {rg : Nat → Option Nat} {D : va_W} {S r : CS} {ad : Nat} {w o : Int32} {bits : Int64} (h : f_X11_undo_5 S w o = some r) : ∀ l, kMx l yX11_undo cX11_undo 2 none rm_X11_undo g [.ref (q 0), .ref ad] (cx g q (rc g q rg :: dc ad 5 w o bits none :: D) S) (pU g q rg D r) 0 0 := by
  refine k_openx_v (own := "MarkChains") (by decide) rfl (Nat.le_of_ble_eq_true rfl) (fun X C hR => ?_)
  refine (?_ : jJ X g r (cx g q (rc g q rg :: dc ad 5 w o bits none :: D) S) 0 0 0 [(0, .ref (q 0)), (1, .ref ad)] [] (f_X11_undo_5 S w o)) h
  unfold f_X11_undo_5
  refine r_aload_n (pc := 0) C dX11_undo_0 1 rfl ?_
  refine r_getN (k := 0) (pc := 1) C kin_X2 knf_40 53 rfl rfl (by decide) rfl rfl dX11_undo_1 ?_
  refine r_tabIn (off := 148) (v := 5) 152 (pc := 4) C dX11_undo_4 rfl (by decide) (by decide) (by decide) (by decide) ?_
  refine r_aload_n (pc := 152) C dX11_undo_152 0 rfl ?_
  refine xg_x_book (pc := 153) C kw_2_75 dX11_undo_153 ?_
  refine r_aload_n (pc := 156) C dX11_undo_156 1 rfl ?_
  refine r_getN (k := 1) (pc := 157) C kin_X2 knf_41 53 rfl rfl (by decide) rfl rfl dX11_undo_157 ?_
  refine r_cVpz (As := [.int w]) (st := []) (pc := 160) C (fun _ h => c_X1_hasMark h) kY_X1_hasMark kw_4_44 kw_4_45 kw_4_43 rfl ⟨Nat.le_of_ble_eq_true rfl, Nat.le_of_ble_eq_true rfl⟩ rfl rfl ⟨Nat.zero_le _, Nat.zero_le _⟩ 3 rfl rfl rfl (Nat.le_of_ble_eq_true rfl) dX11_undo_160 (fun x1 => ?_)
  refine r_ifb_eq 193 (pc := 163) C dX11_undo_163 (by decide) ?_ ?_
  · refine r_drop (ws' := cx g q (rc g q rg :: D) S) (l' := [dc ad 5 w o bits none]) k_pdrop ?_
    exact r_retXv (Φ := pU g q rg D) hR ⟨rfl, q, rfl, rfl, rfl⟩ (pc := 193) dX11_undo_193
  · refine r_aload_n (pc := 166) C dX11_undo_166 0 rfl ?_
    refine xg_x_book (pc := 167) C kw_2_75 dX11_undo_167 ?_
    refine xgN_bk_papers (pc := 170) C knf_25 dX11_undo_170 ?_
    refine r_aload_n (pc := 173) C dX11_undo_173 1 rfl ?_
    refine r_getN (k := 1) (pc := 174) C kin_X2 knf_41 53 rfl rfl (by decide) rfl rfl dX11_undo_174 ?_
    refine r_aload_n (pc := 177) C dX11_undo_177 1 rfl ?_
    refine r_getN (k := 2) (pc := 178) C kin_X2 knf_42 53 rfl rfl (by decide) rfl rfl dX11_undo_178 ?_
    refine xs_bk_papers (pc := 181) C dX11_undo_181 (fun S2 => ?_)
    refine r_goto 193 (pc := 182) C dX11_undo_182 (by decide) ?_
    refine r_drop (ws' := cx g q (rc g q rg :: D) S2) (l' := [dc ad 5 w o bits none]) k_pdrop ?_
    exact r_retXv (Φ := pU g q rg D) hR ⟨rfl, q, rfl, rfl, rfl⟩ (pc := 193) dX11_undo_193
set_option maxRecDepth 100000 in
theorem w_X11_undo_5 {S r : CS} {w : Int32} {o : Int32} (h : f_X11_undo_5 S w o = some r) : gI [] [21] S r := by
  have hS : gI [] [21] S S := gI_rf
  refine (?_ : jf (gI [] [21] S) id (f_X11_undo_5 S w o)) _ h
  unfold f_X11_undo_5
  refine f_bp (fun x1 => ?_)
  refine f_ite ?_ ?_
  · refine f_chk (f_ltS (gI_ca hS (by decide)) (fun S2 hS2 => ?_))
    exact f_some hS2
  · exact f_some hS
def f_X11_undo_6 (S : CS) (o : Int32) : Option CS :=
  lt (ci S 0 o) fun S1 =>
  some S1
set_option maxRecDepth 100000 in
set_option maxHeartbeats 4000000 in
theorem c_X11_undo_6 {g : KG} {q : Nat → Nat} {rg : Nat → Option Nat} {D : va_W} {S r : CS} {ad : Nat} {w o : Int32} {bits : Int64} (h : f_X11_undo_6 S o = some r) : ∀ l, kMx l yX11_undo cX11_undo 2 none rm_X11_undo g [.ref (q 0), .ref ad] (cx g q (rc g q rg :: dc ad 6 w o bits none :: D) S) (pU g q rg D r) 0 0 := by
  refine k_openx_v (own := "MarkChains") (by decide) rfl (Nat.le_of_ble_eq_true rfl) (fun X C hR => ?_)
  refine (?_ : jJ X g r (cx g q (rc g q rg :: dc ad 6 w o bits none :: D) S) 0 0 0 [(0, .ref (q 0)), (1, .ref ad)] [] (f_X11_undo_6 S o)) h
  unfold f_X11_undo_6
  refine r_aload_n (pc := 0) C dX11_undo_0 1 rfl ?_
  refine r_getN (k := 0) (pc := 1) C kin_X2 knf_40 53 rfl rfl (by decide) rfl rfl dX11_undo_1 ?_
  refine r_tabOut 185 (pc := 4) C dX11_undo_4 (by decide) (by decide) ?_
  refine r_aload_n (pc := 185) C dX11_undo_185 0 rfl ?_
  refine r_aload_n (pc := 186) C dX11_undo_186 1 rfl ?_
  refine r_getN (k := 2) (pc := 187) C kin_X2 knf_42 53 rfl rfl (by decide) rfl rfl dX11_undo_187 ?_
  refine xp_x_today (pc := 190) C kw_2_86 dX11_undo_190 (fun S1 => ?_)
  refine r_drop (ws' := cx g q (rc g q rg :: D) S1) (l' := [dc ad 6 w o bits none]) k_pdrop ?_
  exact r_retXv (Φ := pU g q rg D) hR ⟨rfl, q, rfl, rfl, rfl⟩ (pc := 193) dX11_undo_193
set_option maxRecDepth 100000 in
theorem w_X11_undo_6 {S r : CS} {o : Int32} (h : f_X11_undo_6 S o = some r) : gI [0] [] S r := by
  have hS : gI [0] [] S S := gI_rf
  refine (?_ : jf (gI [0] [] S) id (f_X11_undo_6 S o)) _ h
  unfold f_X11_undo_6
  refine f_ltS (gI_ci hS (by decide)) (fun S1 hS1 => ?_)
  exact f_some hS1
set_option maxRecDepth 100000 in
set_option maxHeartbeats 4000000 in
theorem c_X11_undo_1 {g : KG} {q : Nat → Nat} {rg : Nat → Option Nat} {D : va_W} {S : CS} {ad : Nat} {f : Nat × Nat × Nat × Nat} {v : FV} {w o : Int32} {bits : Int64} : ∀ l, kMx l yX11_undo cX11_undo 2 none rm_X11_undo g [.ref (q 0), .ref ad] (cx g q (rc g q rg :: dc ad 1 w o bits (some f.1) :: (fcv g f v ++ D)) S) (pU g q rg D (fset S 45 24 v.1 v.2.1 v.2.2.1 v.2.2.2.1 v.2.2.2.2.1 v.2.2.2.2.2)) 0 0 := by
  refine k_openx_v (own := "MarkChains") (by decide) rfl (Nat.le_of_ble_eq_true rfl) (fun X C hR => ?_)
  refine (?_ : jJ X g () (cx g q (rc g q rg :: dc ad 1 w o bits (some f.1) :: (fcv g f v ++ D)) S) 0 0 0 [(0, .ref (q 0)), (1, .ref ad)] [] (some ())) rfl
  refine r_aload_n (pc := 0) C dX11_undo_0 1 rfl ?_
  refine r_getN (k := 0) (pc := 1) C kin_X2 knf_40 53 rfl rfl (by decide) rfl rfl dX11_undo_1 ?_
  refine r_tabIn (off := 54) (v := 1) 58 (pc := 4) C dX11_undo_4 rfl (by decide) (by decide) (by decide) (by decide) ?_
  refine r_aload_n (pc := 58) C dX11_undo_58 0 rfl ?_
  refine r_aload_n (pc := 59) C dX11_undo_59 1 rfl ?_
  refine r_getN (k := 4) (v := .ref f.1) (pc := 60) C kin_X2 knf_44 53 rfl rfl (by decide) rfl rfl dX11_undo_60 ?_
  refine r_ifnonnullR 73 (pc := 63) C dX11_undo_63 (by decide) ?_
  refine r_aload_n (pc := 73) C dX11_undo_73 1 rfl ?_
  refine r_getN (k := 4) (v := .ref f.1) (pc := 74) C kin_X2 knf_44 53 rfl rfl (by decide) rfl rfl dX11_undo_74 ?_
  refine r_putR (pc := 77) (k := 10) (ty := .object "MarkChains$Formula") (ws' := xn_needed q f.1 S :: ((cw g q S).tail ++ (rc g q rg :: dc ad 1 w o bits (some f.1) :: (fcv g f v ++ D)))) C kin_X11 tyX11 tyX11_ok nmX11 kw_2_84 0 rfl rfl (by decide) rfl rfl (by decide +kernel) rfl rfl (Nat.le_of_ble_eq_true rfl) rfl dX11_undo_77 ?_
  refine r_drop (ws' := cx g (q4 q 45 f.1 f.2.1 f.2.2.1 f.2.2.2) (rc g q rg :: D) (fset S 45 24 v.1 v.2.1 v.2.2.1 v.2.2.2.1 v.2.2.2.2.1 v.2.2.2.2.2)) (l' := dc ad 1 w o bits (some f.1) :: fcv g (q 45, q 46, q 47, q 48) (ofv S 45 24)) ?_ ?_
  · unfold cx
    rw [cw_needed, cw_needed_old, List.cons_append, List.cons_append]
    refine List.Perm.cons _ ?_
    exact k_pswap2
  refine r_goto 193 (pc := 80) C dX11_undo_80 (by decide) ?_
  exact fun _ => hR _ 193 _ ⟨rfl, q4 q 45 f.1 f.2.1 f.2.2.1 f.2.2.2, rfl, rfl, rfl⟩ dX11_undo_193
set_option maxRecDepth 100000 in
set_option maxHeartbeats 4000000 in
theorem c_X11_undo_2 {g : KG} {q : Nat → Nat} {rg : Nat → Option Nat} {D : va_W} {S : CS} {ad : Nat} {f : Nat × Nat × Nat × Nat} {v : FV} {w o : Int32} {bits : Int64} : ∀ l, kMx l yX11_undo cX11_undo 2 none rm_X11_undo g [.ref (q 0), .ref ad] (cx g q (rc g q rg :: dc ad 2 w o bits (some f.1) :: (fcv g f v ++ D)) S) (pU g q rg D (fset S 49 25 v.1 v.2.1 v.2.2.1 v.2.2.2.1 v.2.2.2.2.1 v.2.2.2.2.2)) 0 0 := by
  refine k_openx_v (own := "MarkChains") (by decide) rfl (Nat.le_of_ble_eq_true rfl) (fun X C hR => ?_)
  refine (?_ : jJ X g () (cx g q (rc g q rg :: dc ad 2 w o bits (some f.1) :: (fcv g f v ++ D)) S) 0 0 0 [(0, .ref (q 0)), (1, .ref ad)] [] (some ())) rfl
  refine r_aload_n (pc := 0) C dX11_undo_0 1 rfl ?_
  refine r_getN (k := 0) (pc := 1) C kin_X2 knf_40 53 rfl rfl (by decide) rfl rfl dX11_undo_1 ?_
  refine r_tabIn (off := 79) (v := 2) 83 (pc := 4) C dX11_undo_4 rfl (by decide) (by decide) (by decide) (by decide) ?_
  refine r_aload_n (pc := 83) C dX11_undo_83 0 rfl ?_
  refine r_aload_n (pc := 84) C dX11_undo_84 1 rfl ?_
  refine r_getN (k := 4) (v := .ref f.1) (pc := 85) C kin_X2 knf_44 53 rfl rfl (by decide) rfl rfl dX11_undo_85 ?_
  refine r_ifnonnullR 98 (pc := 88) C dX11_undo_88 (by decide) ?_
  refine r_aload_n (pc := 98) C dX11_undo_98 1 rfl ?_
  refine r_getN (k := 4) (v := .ref f.1) (pc := 99) C kin_X2 knf_44 53 rfl rfl (by decide) rfl rfl dX11_undo_99 ?_
  refine r_putR (pc := 102) (k := 11) (ty := .object "MarkChains$Formula") (ws' := xn_scored q f.1 S :: ((cw g q S).tail ++ (rc g q rg :: dc ad 2 w o bits (some f.1) :: (fcv g f v ++ D)))) C kin_X11 tyX11 tyX11_ok nmX11 kw_2_85 0 rfl rfl (by decide) rfl rfl (by decide +kernel) rfl rfl (Nat.le_of_ble_eq_true rfl) rfl dX11_undo_102 ?_
  refine r_drop (ws' := cx g (q4 q 49 f.1 f.2.1 f.2.2.1 f.2.2.2) (rc g q rg :: D) (fset S 49 25 v.1 v.2.1 v.2.2.1 v.2.2.2.1 v.2.2.2.2.1 v.2.2.2.2.2)) (l' := dc ad 2 w o bits (some f.1) :: fcv g (q 49, q 50, q 51, q 52) (ofv S 49 25)) ?_ ?_
  · unfold cx
    rw [cw_scored, cw_scored_old, List.cons_append, List.cons_append]
    refine List.Perm.cons _ ?_
    exact k_pswap2
  refine r_goto 193 (pc := 105) C dX11_undo_105 (by decide) ?_
  exact fun _ => hR _ 193 _ ⟨rfl, q4 q 49 f.1 f.2.1 f.2.2.1 f.2.2.2, rfl, rfl, rfl⟩ dX11_undo_193
abbrev rm_X11_back : Room := { frames := 3, cells := 0, slots := 0, locals := 67 }
theorem kY_X11_back : kY yX11_back cX11_back 2 (some .int) 0 := ⟨kw_1_1, kw_5_208, by decide, by decide, by decide +kernel⟩
/-- a deed taken back -/
def f_X11_undo (S : CS) (d : DR) : Option CS := match d.2.2.2.2 with
  | some v => if d.1 = 1 then some (fset S 45 24 v.1 v.2.1 v.2.2.1 v.2.2.2.1 v.2.2.2.2.1 v.2.2.2.2.2) else if d.1 = 2 then some (fset S 49 25 v.1 v.2.1 v.2.2.1 v.2.2.2.1 v.2.2.2.2.1 v.2.2.2.2.2) else none
  | none => if d.1 = 0 then f_X11_undo_0 S d.2.2.2.1 else if d.1 = 3 then f_X11_undo_3 S d.2.1 else if d.1 = 4 then f_X11_undo_4 S d.2.2.2.1 else if d.1 = 5 then f_X11_undo_5 S d.2.1 d.2.2.1 else if d.1 = 6 then f_X11_undo_6 S d.2.2.1 else none
theorem c_X11_undo {g : KG} {q : Nat → Nat} {rg : Nat → Option Nat} {D : va_W} {S r : CS} {d : DA} (h : f_X11_undo S d.2.2 = some r) : ∀ l, kMx l yX11_undo cX11_undo 2 none rm_X11_undo g [.ref (q 0), .ref d.1] (cx g q (rc g q rg :: (dcs g d ++ D)) S) (pU g q rg D r) 0 0 := by
  obtain ⟨ad, f, k, w, o, bits, fo⟩ := d
  unfold f_X11_undo at h
  cases fo with
  | some v =>
    dsimp only at h
    split at h
    · rename_i hk; subst hk; cases h; exact c_X11_undo_1
    · split at h
      · rename_i hk; subst hk; cases h; exact c_X11_undo_2
      · cases h
  | none =>
    dsimp only at h
    split at h
    · rename_i hk; subst hk; exact c_X11_undo_0 h
    · split at h
      · rename_i hk; subst hk; exact c_X11_undo_3 h
      · split at h
        · rename_i hk; subst hk; exact c_X11_undo_4 h
        · split at h
          · rename_i hk; subst hk; exact c_X11_undo_5 h
          · split at h
            · rename_i hk; subst hk; exact c_X11_undo_6 h
            · cases h
theorem w_X11_undo {S r : CS} {d : DR} (h : f_X11_undo S d = some r) : r.1 19 = S.1 19 ∧ r.1 20 = S.1 20 := by
  unfold f_X11_undo at h
  split at h
  · split at h
    · cases h; exact ⟨rfl, rfl⟩
    · split at h
      · cases h; exact ⟨rfl, rfl⟩
      · cases h
  · split at h
    · exact ⟨(w_X11_undo_0 h).1 19 (by decide), (w_X11_undo_0 h).1 20 (by decide)⟩
    · split at h
      · exact ⟨(w_X11_undo_3 h).1 19 (by decide), (w_X11_undo_3 h).1 20 (by decide)⟩
      · split at h
        · exact ⟨(w_X11_undo_4 h).1 19 (by decide), (w_X11_undo_4 h).1 20 (by decide)⟩
        · split at h
          · exact ⟨(w_X11_undo_5 h).1 19 (by decide), (w_X11_undo_5 h).1 20 (by decide)⟩
          · split at h
            · exact ⟨(w_X11_undo_6 h).1 19 (by decide), (w_X11_undo_6 h).1 20 (by decide)⟩
            · cases h
/-- the latest deed is taken back: over the whole state -/
def fx_back (T : XS) : Option (Int32 × XS) := match T.2 with
  | [] => some (-1, T)
  | d :: dl => bp (f_X3_takeLatest T.1) (fun r => bp (f_X11_undo r.2 d) (fun S => some (S.1 20, (S, dl))))
