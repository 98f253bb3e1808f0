/-! deeds: their cells, their ring -/
def rc (g : KG) (q : Nat → Nat) (rg : Nat → Option Nat) : Nat × va_E := (q 35, .inl (g.2.1.2.2.2, 12, .inr (.inr (.inr (.inr rg)))))
def dz (ad : Nat) : Nat × va_E := (ad, .inr (2, [.int 0, .int 0, .int 0, .long 0, .null]))
def dc (ad : Nat) (k w o : Int32) (bits : Int64) (f : Option Nat) : Nat × va_E := (ad, .inr (2, [.int k, .int w, .int o, .long bits, va_rf f]))
abbrev DX : Type := Int32 × Int32 × Int32 × Int32 × Int64
abbrev RX : Type := Int32 × CS × Option DX
/-- the end of a method that may have done a deed -/
def pW (g : KG) (q : Nat → Nat) (rg : Nat → Option Nat) (D : va_W) (r : RX) (o : Option Value) (w : va_W) : Prop := o = some (.int r.1) ∧ match r.2.2 with
  | none => w = cx g q (rc g q rg :: D) r.2.1
  | some d => ∃ ad, w = cx g q (rc g q (va_up rg d.1.toNatClampNeg (some ad)) :: dc ad d.2.1 d.2.2.1 d.2.2.2.1 d.2.2.2.2 none :: D) r.2.1
theorem k_pnew {g : KG} {q : Nat → Nat} {R c : Nat × va_E} {D : va_W} {S : CS} : (cx g q (R :: D) S ++ [c]).Perm (cx g q (R :: c :: D) S) := by
  unfold cx
  rw [List.append_assoc]
  exact List.Perm.append_left _ (List.Perm.cons R (List.perm_append_singleton c D))
theorem kMx.k {l : Launch} {y : MethodName} {cc : ByteArray} {n : Nat} {ret : Option FieldType} {rm : Room} {g : KG} {av : List Value} {w0 w1 : va_W} {o0 : Option Value} {mc ms : Nat} (h : kMx l y cc n ret rm g av w0 (fun o w => o = o0 ∧ w = w1) mc ms) : kM l y cc n ret rm g av w0 w1 o0 mc ms := fun sz => Met_mono (h sz) (fun _ _ _ _ ⟨⟨o, w, e1, ⟨e2, e3⟩, e4, e5⟩, e6⟩ => by
  subst e2; subst e3; exact ⟨⟨e1, e4, e5⟩, e6⟩)
theorem kx_rf_or (r : Option Nat) : va_rf r = .null ∨ ∃ a, va_rf r = .ref a := by
  cases r with
  | none => exact Or.inl rfl
  | some z => exact Or.inr ⟨z, rfl⟩
theorem k_fs2 : ∀ j, j < 5 → defaultValue (tyX2 j) = vp_V [.int 0, .int 0, .int 0, .long 0, .null] j := by
  intro j hj
  match j, hj with
  | 0, _ => rfl
  | 1, _ => rfl
  | 2, _ => rfl
  | 3, _ => rfl
  | 4, _ => rfl
theorem r_cI0 {X : KX} {g : KG} {cc : ByteArray} {own : String} {rm : Room} {nn : Nat} {ρ : Type} {res : ρ} {a b pc : Nat} {lv : List (Nat × Value)} {st : List Value} {F : Option ρ} {w0 w1 : va_W} {y : MethodName} {bytes : ByteArray} {maxL n index adr : Nat} {rm' : Room} {As st0 : List Value} (C : kC X g cc own rm nn) (hM : ∀ l, kM l y bytes maxL none rm' g (.ref adr :: As) w0 w1 none 0 0) (hy : kY y bytes maxL none n) (hi : Cond.instanceMethod y ∈ kTb) (hin : y.name = "<init>") (h1 : Cond.methodLink own index y ∈ kTb) (hn : As.length = n) (hR : rm'.frames + 1 ≤ rm.frames ∧ 8 + (maxL + 11) + rm'.locals ≤ rm.locals) (hrc : rm'.cells = 0) (hrs : rm'.slots = 0) (hcs : a ≤ rm.cells ∧ b ≤ rm.slots) (hst : st0 = As.reverse ++ .ref adr :: st) (hcat : (st.map fun v => v.category).sum ≤ 8) (d : decode cc pc = .ok (.invokespecial index, 3)) (kk : jJ X g res w1 a b (pc + 3) lv st F) : jJ X g res w0 a b pc lv st0 F :=
  r_cIx (α := Unit) (fN := some ()) (Φ := fun _ o w => o = none ∧ w = w1) (G := fun _ => F) (wc := w0) (wr := []) C (fun _ _ l => (hM l).x ⟨rfl, rfl⟩) hy hi hin h1 hn hR hrc hrs hcs (List.append_nil _).symm hst hcat d (fun _ o w h => by
    obtain ⟨rfl, rfl⟩ := h
    rw [List.append_nil]
    exact kk)
theorem r_cVX {X : KX} {g : KG} {cc : ByteArray} {own : String} {rm : Room} {nn : Nat} {ρ : Type} {res : ρ} {ws : va_W} {a b pc : Nat} {lv : List (Nat × Value)} {st : List Value} {α : Type} {fN : Option α} {Φ : α → Option Value → va_W → Prop} {G : α → Option ρ} {y : MethodName} {bytes : ByteArray} {maxL n index adr ci N mc ms : Nat} {ret : Option FieldType} {rm' : Room} {As fs st0 : List Value} {T : u_T} (C : kC X g cc own rm nn) (hM : ∀ r, fN = some r → ∀ l, kMx l y bytes maxL ret rm' g (.ref adr :: As) ws (Φ r) mc ms) (hy : kY y bytes maxL ret n) (hi : Cond.instanceMethod y ∈ kTb) (hs : Cond.selects y.cls y y ∈ kTb) (h1 : Cond.methodLink own index y ∈ kTb) (hn : As.length = n) (hR : rm'.frames + 1 ≤ rm.frames ∧ 8 + (maxL + 11) + rm'.locals ≤ rm.locals) (hrc : rm'.cells = mc) (hrs : rm'.slots = ms) (hcs : a + mc ≤ rm.cells ∧ b + ms ≤ rm.slots) (q0 : Nat) (he : ws[q0]? = some (adr, .inr (ci, fs))) (hc : vwCl[ci]? = some (y.cls, T, N)) (hst : st0 = As.reverse ++ .ref adr :: st) (hcat : (st.map fun v => v.category).sum ≤ 8) (d : decode cc pc = .ok (.invokevirtual index, 3)) (kk : ∀ r o w1, Φ r o w1 → jJ X g res w1 (a + mc) (b + ms) (pc + 3) lv (o.toList ++ st) (G r)) : jJ X g res ws a b pc lv st0 (bp fN G) :=
  r_cVx (wc := ws) (wr := []) C hM hy hi hs h1 hn hR hrc hrs hcs (List.append_nil _).symm q0 he hc hst hcat d (fun r o w1 h => by rw [List.append_nil]; exact kk r o w1 h)
abbrev rm_X2_init : Room := { frames := 1, cells := 0, slots := 0, locals := 20 }
theorem kY_X2_init : kY yX2_init cX2_init 7 none 5 := ⟨kw_1_19, kw_3_96, by decide, by decide, by decide +kernel⟩
set_option maxRecDepth 100000 in
set_option maxHeartbeats 4000000 in
theorem c_X2_initN {g : KG} {q : Nat → Nat} {R : Nat × va_E} {D : va_W} {S : CS} {ad : Nat} {k w o : Int32} {bits : Int64} : ∀ l, kM l yX2_init cX2_init 7 none rm_X2_init g [.ref ad, .int k, .int w, .int o, .long bits, .null] (cx g q (R :: dz ad :: D) S) (cx g q (R :: dc ad k w o bits none :: D) S) none 0 0 := by
  intro l
  refine kMx.k (k_openx_c (own := "MarkChains$Deed") rfl (by decide) rfl (Nat.le_of_ble_eq_true rfl) (fun X C hR hI => ?_) l)
  refine (?_ : jJ X g () (cx g q (R :: (ad, .inr (2, [.int 0, .int 0, .int 0, .long 0, .null])) :: D) S) 0 0 0 [(0, .ref ad), (1, .int k), (2, .int w), (3, .int o), (4, .long bits), (6, .null)] [] (some ())) rfl
  refine r_aload_n (pc := 0) C dX2_init_0 0 rfl ?_
  refine r_objInit (pc := 1) C kw_3_97 kw_1_28 kw_1_29 (Nat.le_of_ble_eq_true rfl) (Nat.le_of_ble_eq_true rfl) dX2_init_1 ?_
  refine r_aload_n (pc := 4) C dX2_init_4 0 rfl ?_
  refine r_iload_n (pc := 5) C dX2_init_5 1 rfl ?_
  refine r_putF (pc := 6) (k := 0) (ty := .int) (ws' := cx g q (R :: (ad, .inr (2, [.int k, .int 0, .int 0, .long 0, .null])) :: D) S) C hI kin_X2 tyX2 tyX2_ok nmX2 kw_3_98 53 rfl rfl (by decide) rfl rfl rfl (by decide +kernel) rfl rfl (Nat.le_of_ble_eq_true rfl) rfl dX2_init_6 ?_
  refine r_aload_n (pc := 9) C dX2_init_9 0 rfl ?_
  refine r_iload_n (pc := 10) C dX2_init_10 2 rfl ?_
  refine r_putF (pc := 11) (k := 1) (ty := .int) (ws' := cx g q (R :: (ad, .inr (2, [.int k, .int w, .int 0, .long 0, .null])) :: D) S) C hI kin_X2 tyX2 tyX2_ok nmX2 kw_3_100 53 rfl rfl (by decide) rfl rfl rfl (by decide +kernel) rfl rfl (Nat.le_of_ble_eq_true rfl) rfl dX2_init_11 ?_
  refine r_aload_n (pc := 14) C dX2_init_14 0 rfl ?_
  refine r_iload_n (pc := 15) C dX2_init_15 3 rfl ?_
  refine r_putF (pc := 16) (k := 2) (ty := .int) (ws' := cx g q (R :: (ad, .inr (2, [.int k, .int w, .int o, .long 0, .null])) :: D) S) C hI kin_X2 tyX2 tyX2_ok nmX2 kw_3_102 53 rfl rfl (by decide) rfl rfl rfl (by decide +kernel) rfl rfl (Nat.le_of_ble_eq_true rfl) rfl dX2_init_16 ?_
  refine r_aload_n (pc := 19) C dX2_init_19 0 rfl ?_
  refine r_lload (pc := 20) C dX2_init_20 4 rfl ?_
  refine r_putF (pc := 22) (k := 3) (ty := .long) (ws' := cx g q (R :: (ad, .inr (2, [.int k, .int w, .int o, .long bits, .null])) :: D) S) C hI kin_X2 tyX2 tyX2_ok nmX2 kw_3_104 53 rfl rfl (by decide) rfl rfl rfl (by decide +kernel) rfl rfl (Nat.le_of_ble_eq_true rfl) rfl dX2_init_22 ?_
  refine r_aload_n (pc := 25) C dX2_init_25 0 rfl ?_
  refine r_aloadN (pc := 26) C dX2_init_26 5 rfl ?_
  refine r_putF (pc := 28) (k := 4) (ty := .object "MarkChains$Formula") (ws' := cx g q (R :: (ad, .inr (2, [.int k, .int w, .int o, .long bits, .null])) :: D) S) C hI kin_X2 tyX2 tyX2_ok nmX2 kw_3_106 53 rfl rfl (by decide) rfl rfl rfl (by decide +kernel) rfl rfl (Nat.le_of_ble_eq_true rfl) rfl dX2_init_28 ?_
  exact fun _ => hR _ 31 _ ⟨rfl, rfl⟩ dX2_init_31
set_option maxRecDepth 100000 in
set_option maxHeartbeats 4000000 in
theorem c_X2_initR {g : KG} {q : Nat → Nat} {R : Nat × va_E} {D : va_W} {S : CS} {ad : Nat} {k w o : Int32} {bits : Int64} {fa : Nat} : ∀ l, kM l yX2_init cX2_init 7 none rm_X2_init g [.ref ad, .int k, .int w, .int o, .long bits, .ref fa] (cx g q (R :: dz ad :: D) S) (cx g q (R :: dc ad k w o bits (some fa) :: D) S) none 0 0 := by
  intro l
  refine kMx.k (k_openx_c (own := "MarkChains$Deed") rfl (by decide) rfl (Nat.le_of_ble_eq_true rfl) (fun X C hR hI => ?_) l)
  refine (?_ : jJ X g () (cx g q (R :: (ad, .inr (2, [.int 0, .int 0, .int 0, .long 0, .null])) :: D) S) 0 0 0 [(0, .ref ad), (1, .int k), (2, .int w), (3, .int o), (4, .long bits), (6, .ref fa)] [] (some ())) rfl
  refine r_aload_n (pc := 0) C dX2_init_0 0 rfl ?_
  refine r_objInit (pc := 1) C kw_3_97 kw_1_28 kw_1_29 (Nat.le_of_ble_eq_true rfl) (Nat.le_of_ble_eq_true rfl) dX2_init_1 ?_
  refine r_aload_n (pc := 4) C dX2_init_4 0 rfl ?_
  refine r_iload_n (pc := 5) C dX2_init_5 1 rfl ?_
  refine r_putF (pc := 6) (k := 0) (ty := .int) (ws' := cx g q (R :: (ad, .inr (2, [.int k, .int 0, .int 0, .long 0, .null])) :: D) S) C hI kin_X2 tyX2 tyX2_ok nmX2 kw_3_98 53 rfl rfl (by decide) rfl rfl rfl (by decide +kernel) rfl rfl (Nat.le_of_ble_eq_true rfl) rfl dX2_init_6 ?_
  refine r_aload_n (pc := 9) C dX2_init_9 0 rfl ?_
  refine r_iload_n (pc := 10) C dX2_init_10 2 rfl ?_
  refine r_putF (pc := 11) (k := 1) (ty := .int) (ws' := cx g q (R :: (ad, .inr (2, [.int k, .int w, .int 0, .long 0, .null])) :: D) S) C hI kin_X2 tyX2 tyX2_ok nmX2 kw_3_100 53 rfl rfl (by decide) rfl rfl rfl (by decide +kernel) rfl rfl (Nat.le_of_ble_eq_true rfl) rfl dX2_init_11 ?_
  refine r_aload_n (pc := 14) C dX2_init_14 0 rfl ?_
  refine r_iload_n (pc := 15) C dX2_init_15 3 rfl ?_
  refine r_putF (pc := 16) (k := 2) (ty := .int) (ws' := cx g q (R :: (ad, .inr (2, [.int k, .int w, .int o, .long 0, .null])) :: D) S) C hI kin_X2 tyX2 tyX2_ok nmX2 kw_3_102 53 rfl rfl (by decide) rfl rfl rfl (by decide +kernel) rfl rfl (Nat.le_of_ble_eq_true rfl) rfl dX2_init_16 ?_
  refine r_aload_n (pc := 19) C dX2_init_19 0 rfl ?_
  refine r_lload (pc := 20) C dX2_init_20 4 rfl ?_
  refine r_putF (pc := 22) (k := 3) (ty := .long) (ws' := cx g q (R :: (ad, .inr (2, [.int k, .int w, .int o, .long bits, .null])) :: D) S) C hI kin_X2 tyX2 tyX2_ok nmX2 kw_3_104 53 rfl rfl (by decide) rfl rfl rfl (by decide +kernel) rfl rfl (Nat.le_of_ble_eq_true rfl) rfl dX2_init_22 ?_
  refine r_aload_n (pc := 25) C dX2_init_25 0 rfl ?_
  refine r_aload (pc := 26) C dX2_init_26 5 rfl ?_
  refine r_putF (pc := 28) (k := 4) (ty := .object "MarkChains$Formula") (ws' := cx g q (R :: (ad, .inr (2, [.int k, .int w, .int o, .long bits, .ref fa])) :: D) S) C hI kin_X2 tyX2 tyX2_ok nmX2 kw_3_106 53 rfl rfl (by decide) rfl rfl rfl (by decide +kernel) rfl rfl (Nat.le_of_ble_eq_true rfl) rfl dX2_init_28 ?_
  exact fun _ => hR _ 31 _ ⟨rfl, rfl⟩ dX2_init_31
abbrev rm_X3_add : Room := { frames := 1, cells := 0, slots := 0, locals := 21 }
theorem kY_X3_add : kY yX3_add cX3_add 2 none 1 := ⟨kw_1_9, kw_3_123, by decide, by decide, by decide +kernel⟩
def f_X3_add (S : CS) : Option CS :=
  chk (S.1 19) 12 (lt (ci S 19 ((S.1 19) + 1 - ((S.1 19) + 1) / 12 * 12)) fun S1 => lt (ci S1 20 (if 12 < (S1.1 20) + 1 then 12 else (S1.1 20) + 1)) fun S2 => some S2)
set_option maxRecDepth 100000 in
set_option maxHeartbeats 4000000 in
theorem c_X3_add {g : KG} {q : Nat → Nat} {rg : Nat → Option Nat} {D : va_W} {S S' : CS} {ad : Nat} {vs : List Value} (h : f_X3_add S = some S') : ∀ l, kM l yX3_add cX3_add 2 none rm_X3_add g [.ref (q 34), .ref ad] (cx g q (rc g q rg :: (ad, .inr (2, vs)) :: D) S) (cx g q (rc g q (va_up rg (S.1 19).toNatClampNeg (some ad)) :: (ad, .inr (2, vs)) :: D) S') none 0 0 := by
  refine k_open_v (own := "MarkChains$Deeds") (by decide) rfl (Nat.le_of_ble_eq_true rfl) (fun X C hR => ?_)
  refine (?_ : jJ X g S' (cx g q (rc g q rg :: (ad, .inr (2, vs)) :: D) S) 0 0 0 [(0, .ref (q 34)), (1, .ref ad)] [] (f_X3_add S)) h
  unfold f_X3_add
  refine r_aload_n (pc := 0) C dX3_add_0 0 rfl ?_
  refine xg_de_ring (pc := 1) C kw_2_8 dX3_add_1 ?_
  refine r_aload_n (pc := 4) C dX3_add_4 0 rfl ?_
  refine xg_de_next (pc := 5) C kw_2_9 dX3_add_5 ?_
  refine r_aload_n (pc := 8) C dX3_add_8 1 rfl ?_
  refine r_aast (pc := 9) (ws' := cx g q (rc g q (va_up rg (S.1 19).toNatClampNeg (some ad)) :: (ad, .inr (2, vs)) :: D) S) C 52 53 rfl rfl rfl dX3_add_9 ?_
  refine r_aload_n (pc := 10) C dX3_add_10 0 rfl ?_
  refine r_aload_n (pc := 11) C dX3_add_11 0 rfl ?_
  refine xg_de_next (pc := 12) C kw_2_9 dX3_add_12 ?_
  refine r_iconst (pc := 15) C dX3_add_15 (v := 1) (by decide) ?_
  refine r_iadd (pc := 16) C dX3_add_16 ?_
  refine r_bipush (pc := 17) C dX3_add_17 (v := 12) (by decide) ?_
  refine r_irem (pc := 19) C dX3_add_19 (by decide) ?_
  refine xp_de_next (pc := 20) C kw_2_9 dX3_add_20 (fun S1 => ?_)
  refine r_aload_n (pc := 23) C dX3_add_23 0 rfl ?_
  refine r_aload_n (pc := 24) C dX3_add_24 0 rfl ?_
  refine xg_de_size (pc := 25) C kw_2_10 dX3_add_25 ?_
  refine r_iconst (pc := 28) C dX3_add_28 (v := 1) (by decide) ?_
  refine r_iadd (pc := 29) C dX3_add_29 ?_
  refine r_bipush (pc := 30) C dX3_add_30 (v := 12) (by decide) ?_
  refine r_mmin (st := [.ref (q 34)]) (pc := 32) C kw_3_124 (Nat.le_of_ble_eq_true rfl) (Nat.le_of_ble_eq_true rfl) ⟨Nat.zero_le _, Nat.zero_le _⟩ dX3_add_32 ?_
  refine xp_de_size (pc := 35) C kw_2_10 dX3_add_35 (fun S2 => ?_)
  exact r_retWV (wf := cx g q (rc g q (va_up rg (S.1 19).toNatClampNeg (some ad)) :: (ad, .inr (2, vs)) :: D)) hR (pc := 38) dX3_add_38
abbrev rm_X3_takeLatest : Room := { frames := 0, cells := 0, slots := 0, locals := 0 }
theorem kY_X3_takeLatest : kY yX3_takeLatest cX3_takeLatest 1 (some (.object "MarkChains$Deed")) 0 := ⟨kw_1_9, kw_5_212, by decide, by decide, by decide +kernel⟩
/-- the latest deed is forgotten: its place in the ring, or none -/
def f_X3_takeLatest (S : CS) : Option (Option Int32 × CS) :=
  if (S.1 20) = 0 then some (none, S) else lt (ci S 20 ((S.1 20) - 1)) fun S1 => lt (ci S1 19 ((S1.1 19) + 12 - 1 - ((S1.1 19) + 12 - 1) / 12 * 12)) fun S2 => chk (S2.1 19) 12 (some (some (S2.1 19), S2))
def pT (g : KG) (q : Nat → Nat) (rg : Nat → Option Nat) (E : va_W) (r : Option Int32 × CS) (o : Option Value) (w : va_W) : Prop := w = cx g q (rc g q rg :: E) r.2 ∧ o = some (match r.1 with
  | none => .null
  | some i => va_rf (rg i.toNatClampNeg))
set_option maxRecDepth 100000 in
set_option maxHeartbeats 4000000 in
theorem c_X3_takeLatest {g : KG} {q : Nat → Nat} {rg : Nat → Option Nat} {E : va_W} {S : CS} {r : Option Int32 × CS} (h : f_X3_takeLatest S = some r) : ∀ l, kMx l yX3_takeLatest cX3_takeLatest 1 (some (.object "MarkChains$Deed")) rm_X3_takeLatest g [.ref (q 34)] (cx g q (rc g q rg :: E) S) (pT g q rg E r) 0 0 := by
  refine k_openx_a (own := "MarkChains$Deeds") (Or.inl ⟨_, rfl⟩) (fun v w hv => ?_) (by decide) rfl (Nat.le_of_ble_eq_true rfl) (fun X C hR => ?_)
  · have e := Option.some.inj hv.2
    rw [e]
    cases r.1 with
    | none => exact Or.inl rfl
    | some i => exact kx_rf_or (rg i.toNatClampNeg)
  refine (?_ : jJ X g r (cx g q (rc g q rg :: E) S) 0 0 0 [(0, .ref (q 34))] [] (f_X3_takeLatest S)) h
  unfold f_X3_takeLatest
  refine r_aload_n (pc := 0) C dX3_takeLatest_0 0 rfl ?_
  refine xg_de_size (pc := 1) C kw_2_10 dX3_takeLatest_1 ?_
  refine r_if_ne 9 (pc := 4) C dX3_takeLatest_4 (by decide) ?_ ?_
  · refine r_aload_n (pc := 9) C dX3_takeLatest_9 0 rfl ?_
    refine r_dup (pc := 10) C dX3_takeLatest_10 rfl ?_
    refine xg_de_size (pc := 11) C kw_2_10 dX3_takeLatest_11 ?_
    refine r_iconst (pc := 14) C dX3_takeLatest_14 (v := 1) (by decide) ?_
    refine r_isub (pc := 15) C dX3_takeLatest_15 ?_
    refine xp_de_size (pc := 16) C kw_2_10 dX3_takeLatest_16 (fun S1 => ?_)
    refine r_aload_n (pc := 19) C dX3_takeLatest_19 0 rfl ?_
    refine r_aload_n (pc := 20) C dX3_takeLatest_20 0 rfl ?_
    refine xg_de_next (pc := 21) C kw_2_9 dX3_takeLatest_21 ?_
    refine r_bipush (pc := 24) C dX3_takeLatest_24 (v := 12) (by decide) ?_
    refine r_iadd (pc := 26) C dX3_takeLatest_26 ?_
    refine r_iconst (pc := 27) C dX3_takeLatest_27 (v := 1) (by decide) ?_
    refine r_isub (pc := 28) C dX3_takeLatest_28 ?_
    refine r_bipush (pc := 29) C dX3_takeLatest_29 (v := 12) (by decide) ?_
    refine r_irem (pc := 31) C dX3_takeLatest_31 (by decide) ?_
    refine xp_de_next (pc := 32) C kw_2_9 dX3_takeLatest_32 (fun S2 => ?_)
    refine r_aload_n (pc := 35) C dX3_takeLatest_35 0 rfl ?_
    refine xg_de_ring (pc := 36) C kw_2_8 dX3_takeLatest_36 ?_
    refine r_aload_n (pc := 39) C dX3_takeLatest_39 0 rfl ?_
    refine xg_de_next (pc := 40) C kw_2_9 dX3_takeLatest_40 ?_
    refine r_aald (pc := 43) C 52 rfl dX3_takeLatest_43 ?_
    exact r_retXa (Φ := pT g q rg E) hR ⟨rfl, rfl⟩ (pc := 44) dX3_takeLatest_44
  · refine r_null (pc := 7) C dX3_takeLatest_7 ?_
    exact r_retXa (Φ := pT g q rg E) hR ⟨rfl, rfl⟩ (pc := 8) dX3_takeLatest_8
