/-! Arrays.copyOf, Formula.<init>, what is read into a formula -/
theorem arrV_cong (cI : ClassId) {N : Nat} {f h : Nat → Int32} (e : ∀ j, j < N → f j = h j) : vp_cell cI (N, .inl f) = vp_cell cI (N, .inl h) := by
  rw [vp_cell_i, vp_cell_i]
  unfold arrV
  have : (fun j : Fin N => Value.int (f j.val)) = fun j : Fin N => Value.int (h j.val) := funext (fun j => by rw [e j.val j.isLt])
  rw [this]
section KROWS4
variable {X : KX} {g : KG} {cc : ByteArray} {own : String} {rm : Room} {nn : Nat} {ρ : Type} {res : ρ} {ws : va_W} {a b pc : Nat} {lv : List (Nat × Value)} {st : List Value} {F F1 F2 : Option ρ}
theorem r_lastc {q n : Nat} {cA : ClassId} {f h : Nat → Int32} (e : ∀ j, j < n → f j = h j) (kk : jJ X g res (ws ++ [(q, .inl (cA, n, .inl h))]) a b pc lv st F) : jJ X g res (ws ++ [(q, .inl (cA, n, .inl f))]) a b pc lv st F := by
  obtain ⟨p, l, e', R, s, m, args, below, meth, c, Q, A, nL⟩ := X
  intro hF H locs ls hP hD hS hl
  refine kk hF H locs ls (va_P_iff.mpr (fun x hx => ?_)) (va_D_iff.mpr ?_) hS hl
  · rcases List.mem_append.mp hx with h1 | h1
    · exact va_P_iff.mp hP x (List.mem_append_left _ h1)
    · rw [List.mem_singleton.mp h1]
      have h2 : H[q]? = some (vp_cell cA (n, .inl f)) := va_P_iff.mp hP (q, .inl (cA, n, .inl f)) (List.mem_append_right _ (List.mem_singleton.mpr rfl))
      show H[q]? = some (vp_cell cA (n, .inl h))
      rw [h2, arrV_cong cA e]
  · have h0 := va_D_iff.mp hD
    refine ⟨by simpa using h0.1, fun x hx => ?_⟩
    rcases List.mem_append.mp hx with h1 | h1
    · exact h0.2 x (List.mem_append_left _ h1)
    · rw [List.mem_singleton.mp h1]
      exact h0.2 (q, .inl (cA, n, .inl f)) (List.mem_append_right _ (List.mem_singleton.mpr rfl))
theorem r_clone {adr n : Nat} {f : Nat → Int32} (C : kC X g cc "java/util/Arrays" rm nn) (q0 : Nat) (he : ws[q0]? = some (adr, .inl (g.2.1.1, n, .inl f))) (hfr : 1 ≤ rm.frames) (hlo : (st.map fun v => v.category).sum + 14 ≤ rm.locals) (hcs : a + 1 ≤ rm.cells ∧ b + n ≤ rm.slots) (d : decode cc pc = .ok (.invokevirtual 316, 3)) (kk : ∀ q : Nat, jJ X g res (ws ++ [(q, .inl (g.2.1.1, n, .inl f))]) (a + 1) (b + n) (pc + 3) lv (.ref q :: st) F) : jJ X g res ws a b pc lv (.ref adr :: st) F := by
  obtain ⟨p, l, e, R, s, m, args, below, meth, c, Q, A, nL⟩ := X
  obtain ⟨hx, hb, hml, hown, hts, hK, hA, hAb, hKS, hlk, rfl, hbs, rfl⟩ := C
  intro hF H locs ls hP hD hS hl
  refine va_clone (ad := "[I") (ty := .int) hx hb (hml.trans hl.1.symm) hown (hts _ kw_3_204) (hts _ kw_3_205) (hts _ kw_3_206) (hts _ kw_3_207) (hts _ kw_3_208) hKS.2.2.2.1 hK hP hD hS hA q0 0 he rfl (hK.2 0 (g.2.1.1, .int) rfl).2 (fun i v hv => ?_) hfr hlo hcs.1 hcs.2 d (fun q H1 _ hP1 hD1 hS1 => kk q hF H1 locs ls hP1 hD1 hS1 hl)
  rw [vp_cell_i] at hv
  by_cases hi : i < n
  · rw [arrV_read g.2.1.1 _ hi] at hv
    cases hv; rfl
  · rw [Array.getElem?_eq_none (by rw [arrV_size]; omega)] at hv
    cases hv
theorem r_castI {adr : Nat} {x : vp_A} (C : kC X g cc "java/util/Arrays" rm nn) (q0 : Nat) (he : ws[q0]? = some (adr, .inl (g.2.1.1, x))) (d : decode cc pc = .ok (.checkcast 317, 3)) (kk : jJ X g res ws a b (pc + 3) lv (.ref adr :: st) F) : jJ X g res ws a b pc lv (.ref adr :: st) F := by
  obtain ⟨p, l, e, R, s, m, args, below, meth, c, Q, A, nL⟩ := X
  obtain ⟨hx, hb, hml, hown, hts, hK, hA, hAb, hKS, hlk, rfl, hbs, rfl⟩ := C
  intro hF H locs ls hP hD hS hl
  exact va_castA hx hb hown (hts _ kw_3_210) hP q0 he (hK.2 0 (g.2.1.1, .int) rfl).2 d (kk hF H locs ls hP hD hS hl)
theorem r_acopy {ws' : va_W} {a0 a1 n0 n1 : Nat} {f h : Nat → Int32} {n : Int32} (C : kC X g cc "java/util/Arrays" rm nn) (q0 q1 : Nat) (he0 : ws[q0]? = some (a0, .inl (g.2.1.1, n0, .inl f))) (he1 : ws[q1]? = some (a1, .inl (g.2.1.1, n1, .inl h))) (h3 : ¬ n < 0) (h4 : n.toNatClampNeg ≤ n0) (h5 : n.toNatClampNeg ≤ n1) (hfr : 1 ≤ rm.frames) (hlo : (st.map fun v => v.category).sum + (nativeFrameWords "java/lang/System" "arraycopy" 5 + 11) ≤ rm.locals) (hw : ws.set q1 (a1, .inl (g.2.1.1, n1, .inl (va_cpy f h 0 0 n.toNatClampNeg))) = ws') (d : decode cc pc = .ok (.invokestatic 150, 3)) (kk : jJ X g res ws' a b (pc + 3) lv st F) : jJ X g res ws a b pc lv (.int n :: .int 0 :: .ref a1 :: .int 0 :: .ref a0 :: st) F := by
  obtain ⟨p, l, e, R, s, m, args, below, meth, c, Q, A, nL⟩ := X
  obtain ⟨hx, hb, hml, hown, hts, hK, hA, hAb, hKS, hlk, rfl, hbs, rfl⟩ := C
  intro hF H locs ls hP hD hS hl
  refine va_copyi hx hb (hml.trans hl.1.symm) hown (hts _ kw_3_212) (hts _ kw_3_214) (hts _ kw_3_213) (hts _ kw_1_21) hK hP hD hS q0 q1 0 0 he0 he1 rfl rfl rfl (by decide) (by decide) h3 (by simpa using h4) (by simpa using h5) (fun i _ => rfl) hfr hlo d (fun H1 locs1 hP1 hD1 hS1 => kk hF H1 locs1 ls (by rw [← hw]; exact hP1) (by rw [← hw]; exact hD1) hS1 hl)
end KROWS4
abbrev rm_copyOf (N : Nat) : Room := { frames := 1, cells := 1, slots := N, locals := 60 }
theorem kY_J7_copyOf_59c91 : kY yJ7_copyOf_59c91 cJ7_copyOf_59c91 3 (some (.array .int)) 2 := ⟨kw_1_20, kw_3_203, by decide, by decide, by decide +kernel⟩
set_option maxRecDepth 100000 in
set_option maxHeartbeats 4000000 in
theorem c_copyOf {g : KG} {ws : va_W} {p adr N n : Nat} {f : Nat → Int32} {c : Int32} (hc : c = nI n) (hn : n ≤ N) (hN : N ≤ 600) (he : ws[p]? = some (adr, .inl (g.2.1.1, N, .inl f))) : ∀ l, kMx l yJ7_copyOf_59c91 cJ7_copyOf_59c91 3 (some (.array .int)) (rm_copyOf N) g [.ref adr, .int c] ws (fun o w => ∃ q1, o = some (.ref q1) ∧ w = ws ++ [(q1, .inl (g.2.1.1, n, .inl f))]) 1 N := by
  have hp : p < ws.length := (List.getElem?_eq_some_iff.mp he).1
  refine k_openx_a (own := "java/util/Arrays") (Or.inr ⟨_, rfl⟩) (fun v w hv => ?_) (by decide) rfl (Nat.le_of_ble_eq_true rfl) (fun X C hR => ?_)
  · obtain ⟨q1, h1, -⟩ := hv
    exact Or.inr ⟨q1, Option.some.inj h1⟩
  have c0 : ¬ c < 0 := by rw [hc]; exact nI_pos (by omega)
  have cn : c.toNatClampNeg = n := by rw [hc]; exact nI_clamp (by omega)
  have hq : c = nI N ↔ n = N := by rw [hc]; exact nI_eq (by omega) (by omega)
  by_cases hnN : n = N
  · refine (?_ : jJ X g () ws 0 0 0 [(0, .ref adr), (1, .int c)] [] (if c = nI N then some () else none)) (if_pos (hq.mpr hnN))
    refine r_iload_n (pc := 0) C dJ7_copyOf_59c91_0 1 rfl ?_
    refine r_aload_n (pc := 1) C dJ7_copyOf_59c91_1 0 rfl ?_
    refine r_alen (t0 := 0) (v := nI N) (pc := 2) C p he rfl rfl dJ7_copyOf_59c91_2 ?_
    refine r_icmp_ne 14 (pc := 3) C dJ7_copyOf_59c91_3 (by decide) (fun hF => by cases hF) ?_
    refine r_aload_n (pc := 6) C dJ7_copyOf_59c91_6 0 rfl ?_
    subst hnN
    refine r_clone (pc := 7) C p he (Nat.le_of_ble_eq_true rfl) (Nat.le_of_ble_eq_true rfl) ⟨(Nat.le_of_ble_eq_true rfl), by show 0 + n ≤ n; omega⟩ dJ7_copyOf_59c91_7 (fun q1 => ?_)
    refine r_castI (x := (n, .inl f)) (pc := 10) C ws.length (by simp) dJ7_copyOf_59c91_10 ?_
    refine r_widen (a' := 1) (b' := n) (Nat.le_of_ble_eq_true rfl) (by show 0 + n ≤ n; omega) ?_
    exact fun _ => hR _ _ 13 _ ⟨q1, rfl, rfl⟩ dJ7_copyOf_59c91_13
  · refine (?_ : jJ X g () ws 0 0 0 [(0, .ref adr), (1, .int c)] [] (if c = nI N then none else some ())) (if_neg (fun h => hnN (hq.mp h)))
    refine r_iload_n (pc := 0) C dJ7_copyOf_59c91_0 1 rfl ?_
    refine r_aload_n (pc := 1) C dJ7_copyOf_59c91_1 0 rfl ?_
    refine r_alen (t0 := 0) (v := nI N) (pc := 2) C p he rfl rfl dJ7_copyOf_59c91_2 ?_
    refine r_icmp_ne 14 (pc := 3) C dJ7_copyOf_59c91_3 (by decide) ?_ (fun hF => by cases hF)
    refine r_iload_n (pc := 14) C dJ7_copyOf_59c91_14 1 rfl ?_
    refine r_newa_int (pc := 15) (N' := n) C kw_1_60 c0 cn (by have h4 : componentBytes .int = 4 := rfl; rw [h4]; omega) ⟨(Nat.le_of_ble_eq_true rfl), by show 0 + n ≤ N; omega⟩ dJ7_copyOf_59c91_15 (fun q1 => ?_)
    have e0 : (ws ++ [(q1, (.inl (g.2.1.1, n, .inl (fun _ => 0)) : va_E))])[p]? = some (adr, .inl (g.2.1.1, N, .inl f)) := by rw [List.getElem?_append_left hp]; exact he
    have e1 : (ws ++ [(q1, (.inl (g.2.1.1, n, .inl (fun _ => 0)) : va_E))])[ws.length]? = some (q1, .inl (g.2.1.1, n, .inl (fun _ => 0))) := by simp
    refine r_astore_n (pc := 17) C dJ7_copyOf_59c91_17 (lv' := [(0, .ref adr), (1, .int c), (2, .ref q1)]) (by decide) [1, 2, 0] rfl ?_
    refine r_aload_n (pc := 18) C dJ7_copyOf_59c91_18 0 rfl ?_
    refine r_iconst (pc := 19) C dJ7_copyOf_59c91_19 (v := 0) (by decide) ?_
    refine r_aload_n (pc := 20) C dJ7_copyOf_59c91_20 2 rfl ?_
    refine r_iconst (pc := 21) C dJ7_copyOf_59c91_21 (v := 0) (by decide) ?_
    refine r_aload_n (pc := 22) C dJ7_copyOf_59c91_22 0 rfl ?_
    refine r_alen (t0 := 0) (v := nI N) (pc := 23) C p e0 rfl rfl dJ7_copyOf_59c91_23 ?_
    refine r_iload_n (pc := 24) C dJ7_copyOf_59c91_24 1 rfl ?_
    refine r_mmin (st := [.int 0, .ref q1, .int 0, .ref adr]) (pc := 25) C kw_3_211 (Nat.le_of_ble_eq_true rfl) (Nat.le_of_ble_eq_true rfl) ⟨(Nat.le_of_ble_eq_true rfl), by show 0 + n ≤ N; omega⟩ dJ7_copyOf_59c91_25 ?_
    have hm : (if c < nI N then c else nI N) = nI n := by
      rw [hc]
      split
      · rfl
      · rename_i h
        rcases Nat.lt_or_ge n N with h2 | h2
        · exact absurd (nI_lt h2 (by omega)) h
        · rw [show N = n by omega]
    rw [hm]
    have cz : (nI n).toNatClampNeg = n := nI_clamp (by omega)
    refine r_acopy (pc := 28) (st := []) (ws' := ws ++ [(q1, .inl (g.2.1.1, n, .inl (va_cpy f (fun _ => 0) 0 0 n)))]) C p ws.length e0 e1 (nI_pos (by omega)) (by rw [cz]; exact hn) (by rw [cz]; exact Nat.le_refl n) (Nat.le_of_ble_eq_true rfl) (Nat.le_of_ble_eq_true rfl) (by rw [cz]; simp) dJ7_copyOf_59c91_28 ?_
    refine r_lastc (h := f) (fun j hj => pk_cpy_in (Nat.zero_le j) (by omega) |>.trans (by simp)) ?_
    refine r_aload_n (pc := 31) C dJ7_copyOf_59c91_31 2 rfl ?_
    refine r_widen (a' := 1) (b' := N) (Nat.le_of_ble_eq_true rfl) (by show 0 + n ≤ N; omega) ?_
    exact fun _ => hR _ _ 32 _ ⟨q1, rfl, rfl⟩ dJ7_copyOf_59c91_32
/-- a formula's four cells -/
def fcs (g : KG) (f0 f1 f2 f3 lc : Nat) (code : Nat → Int32) (le : Nat) (ends stack : Nat → Int32) (h : Int32) : va_W := [(f0, .inr (4, [.ref f1, .ref f2, .ref f3, .int h])), (f1, .inl (g.2.1.1, lc, .inl code)), (f2, .inl (g.2.1.1, le, .inl ends)), (f3, .inl (g.2.1.1, 60, .inl stack))]
theorem k_fs4 : ∀ j, j < 4 → defaultValue (tyX4 j) = vp_V [.null, .null, .null, .int 0] j := by
  intro j hj
  match j, hj with
  | 0, _ => rfl
  | 1, _ => rfl
  | 2, _ => rfl
  | 3, _ => rfl
abbrev rm_X4_init : Room := { frames := 1, cells := 1, slots := 60, locals := 20 }
theorem kY_X4_init : kY yX4_init cX4_init 3 none 2 := ⟨kw_1_12, kw_2_59, by decide, by decide, by decide +kernel⟩
set_option maxRecDepth 100000 in
set_option maxHeartbeats 4000000 in
theorem c_X4_init {g : KG} {f0 a1 a2 : Nat} : ∀ l, kMx l yX4_init cX4_init 3 none rm_X4_init g [.ref f0, .ref a1, .ref a2] [(f0, .inr (4, [.null, .null, .null, .int 0]))] (fun o w => ∃ f3, o = none ∧ w = [(f0, .inr (4, [.ref a1, .ref a2, .ref f3, .int 0])), (f3, .inl (g.2.1.1, 60, .inl (fun _ => 0)))]) 1 60 := by
  refine k_openx_c (own := "MarkChains$Formula") rfl (by decide) rfl (Nat.le_of_ble_eq_true rfl) (fun X C hR hI => ?_)
  refine (?_ : jJ X g () [(f0, .inr (4, [.null, .null, .null, .int 0]))] 0 0 0 [(0, .ref f0), (1, .ref a1), (2, .ref a2)] [] (some ())) rfl
  refine r_aload_n (pc := 0) C dX4_init_0 0 rfl ?_
  refine r_objInit (pc := 1) C kw_2_60 kw_1_28 kw_1_29 (Nat.le_of_ble_eq_true rfl) (Nat.le_of_ble_eq_true rfl) dX4_init_1 ?_
  refine r_aload_n (pc := 4) C dX4_init_4 0 rfl ?_
  refine r_bipush (pc := 5) C dX4_init_5 (v := 60) (by decide) ?_
  refine r_newa_int (pc := 7) (N' := 60) C kw_1_60 (by decide) (by decide) (by decide) ⟨(Nat.le_of_ble_eq_true rfl), (Nat.le_of_ble_eq_true rfl)⟩ dX4_init_7 (fun f3 => ?_)
  refine r_putF (pc := 9) (k := 2) (ty := .array .int) (ws' := [(f0, .inr (4, [.null, .null, .ref f3, .int 0])), (f3, .inl (g.2.1.1, 60, .inl (fun _ => 0)))]) C hI kin_X4 tyX4 tyX4_ok nmX4 kw_2_63 0 rfl rfl (by decide) rfl rfl rfl (by decide +kernel) rfl rfl (Nat.le_of_ble_eq_true rfl) rfl dX4_init_9 ?_
  refine r_aload_n (pc := 12) C dX4_init_12 0 rfl ?_
  refine r_iconst (pc := 13) C dX4_init_13 (v := 0) (by decide) ?_
  refine r_putR (pc := 14) (k := 3) (ty := .int) (ws' := [(f0, .inr (4, [.null, .null, .ref f3, .int 0])), (f3, .inl (g.2.1.1, 60, .inl (fun _ => 0)))]) C kin_X4 tyX4 tyX4_ok nmX4 kw_2_64 0 rfl rfl (by decide) rfl rfl (by decide +kernel) rfl rfl (Nat.le_of_ble_eq_true rfl) rfl dX4_init_14 ?_
  refine r_aload_n (pc := 17) C dX4_init_17 0 rfl ?_
  refine r_aload_n (pc := 18) C dX4_init_18 1 rfl ?_
  refine r_putF (pc := 19) (k := 0) (ty := .array .int) (ws' := [(f0, .inr (4, [.ref a1, .null, .ref f3, .int 0])), (f3, .inl (g.2.1.1, 60, .inl (fun _ => 0)))]) C hI kin_X4 tyX4 tyX4_ok nmX4 kw_2_61 0 rfl rfl (by decide) rfl rfl rfl (by decide +kernel) rfl rfl (Nat.le_of_ble_eq_true rfl) rfl dX4_init_19 ?_
  refine r_aload_n (pc := 22) C dX4_init_22 0 rfl ?_
  refine r_aload_n (pc := 23) C dX4_init_23 2 rfl ?_
  refine r_putF (pc := 24) (k := 1) (ty := .array .int) (ws' := [(f0, .inr (4, [.ref a1, .ref a2, .ref f3, .int 0])), (f3, .inl (g.2.1.1, 60, .inl (fun _ => 0)))]) C hI kin_X4 tyX4 tyX4_ok nmX4 kw_2_62 0 rfl rfl (by decide) rfl rfl rfl (by decide +kernel) rfl rfl (Nat.le_of_ble_eq_true rfl) rfl dX4_init_24 ?_
  exact fun _ => hR _ 27 _ ⟨f3, rfl, rfl⟩ dX4_init_27
abbrev rm_X5_finished : Room := { frames := 3, cells := 4, slots := 672, locals := 110 }
theorem kY_X5_finished : kY yX5_finished cX5_finished 2 (some (.object "MarkChains$Formula")) 1 := ⟨kw_1_7, kw_3_199, by decide, by decide, by decide +kernel⟩
abbrev FN : Type := Option (Nat × Nat) × CS
/-- a formula was made (its lengths), or none -/
def pF (g : KG) (q : Nat → Nat) (E : va_W) (r : FN) (o : Option Value) (w : va_W) : Prop := match r.1 with
  | none => o = some .null ∧ w = cx g q E r.2
  | some n => ∃ f0 f1 f2 f3, o = some (.ref f0) ∧ w = cx g q E r.2 ++ fcs g f0 f1 f2 f3 n.1 (r.2.2.1 27) n.2 (r.2.2.1 29) (fun _ => 0) 0
theorem pF_some {g : KG} {q : Nat → Nat} {E : va_W} {r : FN} {o : Option Value} {w : va_W} (h : pF g q E r o w) : ∃ v, o = some v ∧ (v = .null ∨ ∃ a, v = .ref a) := by
  unfold pF at h
  split at h
  · exact ⟨_, h.1, Or.inl rfl⟩
  · obtain ⟨f0, f1, f2, f3, h1, -⟩ := h
    exact ⟨_, h1, Or.inr ⟨f0, rfl⟩⟩
def f_X5_finished (S : CS) (a1 : Int32) : Option FN :=
  if (S.1 15) = a1 then chk (S.1 10) 601 (chk (S.1 12) 9 (some (some ((S.1 10).toNatClampNeg, (S.1 12).toNatClampNeg), S))) else bw (f_X10_failHere S) (fun _ S1 => some (none, S1))
theorem r_cSX {X : KX} {g : KG} {cc : ByteArray} {own : String} {rm : Room} {nn : Nat} {ρ : Type} {res : ρ} {ws : va_W} {a b pc : Nat} {lv : List (Nat × Value)} {st : List Value} {Φ : Option Value → va_W → Prop} {F : Option ρ} {y : MethodName} {bytes : ByteArray} {maxL n index mc ms : Nat} {ret : Option FieldType} {rm' : Room} {As st0 : List Value} (C : kC X g cc own rm nn) (hM : ∀ l, kMx l y bytes maxL ret rm' g As ws Φ mc ms) (hy : kY y bytes maxL ret n) (hi : Cond.static y ∈ kTb) (h1 : Cond.methodLink own index y ∈ kTb) (hn : As.length = n) (hR : rm'.frames + 1 ≤ rm.frames ∧ 8 + (maxL + 11) + rm'.locals ≤ rm.locals) (hrc : rm'.cells = mc) (hrs : rm'.slots = ms) (hcs : a + mc ≤ rm.cells ∧ b + ms ≤ rm.slots) (hst : st0 = As.reverse ++ st) (hcat : (st.map fun v => v.category).sum ≤ 8) (d : decode cc pc = .ok (.invokestatic index, 3)) (kk : ∀ o w1, Φ o w1 → jJ X g res w1 (a + mc) (b + ms) (pc + 3) lv (o.toList ++ st) F) : jJ X g res ws a b pc lv st0 F :=
  r_cSx (α := Unit) (fN := some ()) (Φ := fun _ => Φ) (G := fun _ => F) (wc := ws) (wr := []) C (fun _ _ => hM) hy hi h1 hn hR hrc hrs hcs (List.append_nil _).symm hst hcat d (fun _ o w1 h => by rw [List.append_nil]; exact kk o w1 h)
theorem cx_app {g : KG} {q : Nat → Nat} {E l : va_W} {S : CS} : cx g q E S ++ l = cx g q (E ++ l) S := List.append_assoc _ _ _
theorem k_pfin {g : KG} {q : Nat → Nat} {E : va_W} {S : CS} {z c1 c2 : Nat × va_E} : (cx g q (E ++ [z] ++ [c1] ++ [c2]) S).Perm ([z] ++ cx g q (E ++ [c1, c2]) S) := by
  unfold cx
  have h : cw g q S ++ (E ++ [z] ++ [c1] ++ [c2]) = (cw g q S ++ E) ++ z :: [c1, c2] := by simp
  rw [h]
  refine List.perm_middle.trans ?_
  rw [List.append_assoc]
  exact List.Perm.refl _
theorem k_pfin2 {g : KG} {q : Nat → Nat} {E : va_W} {S : CS} {z c1 c2 c3 : Nat × va_E} : ([z, c3] ++ cx g q (E ++ [c1, c2]) S).Perm (cx g q E S ++ [z, c1, c2, c3]) := by
  unfold cx
  have h : [z, c3] ++ (cw g q S ++ (E ++ [c1, c2])) = [z, c3] ++ ((cw g q S ++ E) ++ [c1, c2]) := by simp
  rw [h]
  generalize cw g q S ++ E = L
  refine (List.perm_append_comm).trans ?_
  rw [List.append_assoc]
  refine List.Perm.append_left L ?_
  show List.Perm [c1, c2, z, c3] [z, c1, c2, c3]
  exact (List.perm_middle (a := z) (l₁ := [c1, c2]) (l₂ := [c3]))
set_option maxRecDepth 100000 in
set_option maxHeartbeats 4000000 in
theorem c_X5_finished {g : KG} {q : Nat → Nat} {E : va_W} {S : CS} {a1 : Int32} {r : FN} (h : f_X5_finished S a1 = some r) : ∀ l, kMx l yX5_finished cX5_finished 2 (some (.object "MarkChains$Formula")) rm_X5_finished g [.ref (q 26), .int a1] (cx g q E S) (pF g q E r) 4 672 := by
  refine k_openx_a (own := "MarkChains$FormulaReader") (Or.inl ⟨_, rfl⟩) (fun v w hv => by obtain ⟨v', h1, h2⟩ := pF_some hv; cases h1; exact h2) (by decide) rfl (Nat.le_of_ble_eq_true rfl) (fun X C hR => ?_)
  refine (?_ : jJ X g r (cx g q E S) 0 0 0 [(0, .ref (q 26)), (1, .int a1)] [] (f_X5_finished S a1)) h
  unfold f_X5_finished
  refine r_aload_n (pc := 0) C dX5_finished_0 0 rfl ?_
  refine xg_fr_state (pc := 1) C kw_1_190 dX5_finished_1 ?_
  refine r_iload_n (pc := 4) C dX5_finished_4 1 rfl ?_
  refine r_icmp_eq 18 (pc := 5) C dX5_finished_5 (by decide) ?_ ?_
  · refine r_new (pc := 18) (ci := 4) (fs := [.null, .null, .null, .int 0]) C kin_X4 tyX4 tyX4_ok kw_3_200 kw_2_56 kw_1_12 rfl k_fs4 ⟨(Nat.le_of_ble_eq_true rfl), (Nat.le_of_ble_eq_true rfl)⟩ dX5_finished_18 (fun f0 => ?_)
    refine r_weq cx_app ?_
    refine r_dup (pc := 21) C dX5_finished_21 rfl ?_
    refine r_aload_n (pc := 22) C dX5_finished_22 0 rfl ?_
    refine xg_fr_code (pc := 23) C kw_1_181 dX5_finished_23 ?_
    refine r_aload_n (pc := 26) C dX5_finished_26 0 rfl ?_
    refine xg_fr_codeSize (pc := 27) C kw_1_184 dX5_finished_27 ?_
    intro hF
    obtain ⟨hi, hF⟩ := chk_in hF
    obtain ⟨hj, hF⟩ := chk_in hF
    obtain ⟨lc, hlc, elc⟩ := vp_in_of hi (by decide)
    obtain ⟨le, hle, ele⟩ := vp_in_of hj (by decide)
    revert hF
    show jJ X g r _ _ _ _ _ _ _
    refine r_cSX (Φ := fun o w => ∃ f1, o = some (.ref f1) ∧ w = cx g q (E ++ [(f0, .inr (4, [.null, .null, .null, .int 0]))]) S ++ [(f1, .inl (g.2.1.1, lc, .inl (S.2.1 27)))]) (As := [.ref (q 27), .int (S.1 10)]) (st := [.ref f0, .ref f0]) (mc := 1) (ms := 600) (pc := 30) C (c_copyOf (p := 27) elc (by omega) (by decide) rfl) kY_J7_copyOf_59c91 kw_3_202 kw_3_201 rfl ⟨(Nat.le_of_ble_eq_true rfl), (Nat.le_of_ble_eq_true rfl)⟩ rfl rfl ⟨(Nat.le_of_ble_eq_true rfl), (Nat.le_of_ble_eq_true rfl)⟩ rfl (Nat.le_of_ble_eq_true rfl) dX5_finished_30 (fun o w hw => ?_)
    obtain ⟨f1, rfl, rfl⟩ := hw
    refine r_weq cx_app ?_
    refine r_aload_n (pc := 33) C dX5_finished_33 0 rfl ?_
    refine xg_fr_ends (pc := 34) C kw_1_183 dX5_finished_34 ?_
    refine r_aload_n (pc := 37) C dX5_finished_37 0 rfl ?_
    refine xg_fr_conds (pc := 38) C kw_1_186 dX5_finished_38 ?_
    refine r_cSX (Φ := fun o w => ∃ f2, o = some (.ref f2) ∧ w = cx g q (E ++ [(f0, .inr (4, [.null, .null, .null, .int 0]))] ++ [(f1, .inl (g.2.1.1, lc, .inl (S.2.1 27)))]) S ++ [(f2, .inl (g.2.1.1, le, .inl (S.2.1 29)))]) (As := [.ref (q 29), .int (S.1 12)]) (st := [.ref f1, .ref f0, .ref f0]) (mc := 1) (ms := 8) (pc := 41) C (c_copyOf (p := 29) ele (by omega) (by decide) rfl) kY_J7_copyOf_59c91 kw_3_202 kw_3_201 rfl ⟨(Nat.le_of_ble_eq_true rfl), (Nat.le_of_ble_eq_true rfl)⟩ rfl rfl ⟨(Nat.le_of_ble_eq_true rfl), (Nat.le_of_ble_eq_true rfl)⟩ rfl (Nat.le_of_ble_eq_true rfl) dX5_finished_41 (fun o w hw => ?_)
    obtain ⟨f2, rfl, rfl⟩ := hw
    refine r_weq cx_app ?_
    refine r_perm k_pfin ?_
    refine (?_ : jJ X g r _ _ _ _ _ _ (bp (some ()) (fun _ => some (some ((S.1 10).toNatClampNeg, (S.1 12).toNatClampNeg), S))))
    refine r_cIx (α := Unit) (fN := some ()) (Φ := fun _ o w => ∃ f3, o = none ∧ w = [(f0, .inr (4, [.ref f1, .ref f2, .ref f3, .int 0])), (f3, .inl (g.2.1.1, 60, .inl (fun _ => 0)))]) (As := [.ref f1, .ref f2]) (st := [.ref f0]) (mc := 1) (ms := 60) (pc := 44) C (fun _ _ => c_X4_init) kY_X4_init kw_2_58 rfl kw_3_215 rfl ⟨(Nat.le_of_ble_eq_true rfl), (Nat.le_of_ble_eq_true rfl)⟩ rfl rfl ⟨(Nat.le_of_ble_eq_true rfl), (Nat.le_of_ble_eq_true rfl)⟩ rfl rfl (Nat.le_of_ble_eq_true rfl) dX5_finished_44 (fun _ o w hw => ?_)
    obtain ⟨f3, rfl, rfl⟩ := hw
    refine r_perm k_pfin2 ?_
    have e1 : (S.1 10).toNatClampNeg = lc := by rw [elc]; exact nI_clamp (by omega)
    have e2 : (S.1 12).toNatClampNeg = le := by rw [ele]; exact nI_clamp (by omega)
    exact r_retXa (Φ := pF g q E) hR ⟨f0, f1, f2, f3, rfl, by rw [e1, e2]; rfl⟩ (pc := 47) dX5_finished_47
  · refine r_aload_n (pc := 8) C dX5_finished_8 0 rfl ?_
    refine xg_fr_tape (pc := 9) C kw_1_180 dX5_finished_9 ?_
    refine r_cVwz (As := []) (st := []) (wf := cx g q E) (pc := 12) C (fun _ _ h => c_X10_failHere h) kY_X10_failHere kw_3_12 kw_3_13 kw_3_195 rfl ⟨(Nat.le_of_ble_eq_true rfl), (Nat.le_of_ble_eq_true rfl)⟩ rfl rfl ⟨Nat.zero_le _, Nat.zero_le _⟩ 1 rfl rfl rfl (Nat.le_of_ble_eq_true rfl) dX5_finished_12 (fun x1 S1 => ?_)
    refine r_pop (pc := 15) C dX5_finished_15 rfl ?_
    refine r_null (pc := 16) C dX5_finished_16 ?_
    refine r_widen (a' := 4) (b' := 672) (Nat.zero_le _) (Nat.zero_le _) ?_
    exact r_retXa (Φ := pF g q E) hR ⟨rfl, rfl⟩ (pc := 17) dX5_finished_17
