abbrev rm_X11_acts : Room := { frames := 6, cells := 30, slots := 150, locals := 137 }
theorem kY_X11_acts : kY yX11_acts cX11_acts 3 (some .int) 0 := ⟨kw_1_1, kw_5_98, by decide, by decide, by decide +kernel⟩
def fx_run (c : Nat) : Nat → XS → Option (Int32 × XS)
  | 0, T => some (T.1.1 17, T)
  | n + 1, T => if (T.1.1 18) = -1 then bp (f_X11_perform T.1 (nI (c - (n + 1)))) (fun r => bp (f_X0_note r.2.1 (nI (c - (n + 1))) r.1) (fun S1 => fx_run c n (S1, xdl r.2.2 T.2))) else some (T.1.1 17, T)
def fx_acts (T : XS) : Option (Int32 × XS) := bp (f_X10_beginReading T.1) (fun S1 => bw (f_X0_readFrom S1) (fun c S2 => lt (ci S2 1 0) (fun S3 => if c = -1 then some (-1, (S3, T.2)) else chk c 31 (bp (f_X0_begin S3) (fun S4 => fx_run c.toNatClampNeg c.toNatClampNeg (S4, T.2))))))
section ACTS
variable {X : KX} {g : KG} {cc : ByteArray} {own : String} {rm : Room} {nn : Nat} {ρ : Type} {res : ρ} {ws : va_W} {a b pc : Nat} {lv : List (Nat × Value)} {st : List Value} {F : Option ρ}
theorem r_iincP {k : Nat} {n : Int} {x v : Int32} {lv' : List (Nat × Value)} (C : kC X g cc own rm nn) (d : decode cc pc = .ok (.iinc k n, 3)) (j : Nat) (hj : lv[j]? = some (k, .int x)) (hv : x + Int32.ofInt n = v) (hn : k < nn) (ks : List Nat) (h : lv_pick ((k, Value.int v) :: lv.filter (fun q => !(q.1 == k) && !(q.1 + 1 == k && q.2.category == 2))) ks = lv') (kk : jJ X g res ws a b (pc + 3) lv' st F) : jJ X g res ws a b pc lv st F := by
  obtain ⟨p, l, e, R, s, m, args, below, meth, c, Q, A, nL⟩ := X
  obtain ⟨hx, hb, hml, hown, hts, hK, hA, hAb, hKS, hlk, rfl, hbs, rfl⟩ := C
  intro hF H locs ls hP hD hS hl
  exact lv_iinc hx hb d hl hj hv hn rfl (fun ls' hl' => kk hF H locs ls' hP hD hS (lv_sub hl' ks h))
theorem r_putRN {ws' : va_W} {C' host : String} {T : u_T} {N ci index adr k : Nat} {fs : List Value} {v : Value} {ty : FieldType} (C : kC X g cc own rm nn) (hin : ∀ w ∈ u_ws C' T N, w ∈ kTb) (ty0 : Nat → FieldType) (hty : ∀ k, k < N → parseFieldDescriptor (T k).2.2.1 = some (ty0 k)) (hnm : ∀ a, a < N → ∀ b, b < N → a ≠ b → (T a).2.1 ≠ (T b).2.1) (hl' : (own, index, C', (T k).2.1, (T k).2.2.1, host) ∈ kNF) (q0 : Nat) (he : ws[q0]? = some (adr, .inr (ci, fs))) (hc : vwCl[ci]? = some (C', T, N)) (hk : k < N) (hT : (T k).1 = C') (hfin : (T k).2.2.2 = false) (hd : parseFieldDescriptor (T k).2.2.1 = some ty) (hn : narrow ty v = v) (hfit : fits ty v = true) (hlen : k < fs.length) (hw : ws.set q0 (adr, .inr (ci, fs.set k v)) = ws') (d : decode cc pc = .ok (.putfield index, 3)) (kk : jJ X g res ws' a b (pc + 3) lv st F) : jJ X g res ws a b pc lv (v :: .ref adr :: st) F :=
  r_putN (wf := fun _ : Unit => ws') (S' := ()) (G := fun _ => F) C hin ty0 hty hnm hl' q0 he hc hk hT hfin hd hn hfit hlen hw d (fun _ => kk)
theorem r_geT {x y : Int32} {off : Int} (tgt : Nat) (C : kC X g cc own rm nn) (d : decode cc pc = .ok (.if_icmp .ge off, 3)) (ht : (pc : Int) + off = (tgt : Int)) (h : y ≤ x) (kt : jJ X g res ws a b tgt lv st F) : jJ X g res ws a b pc lv (.int y :: .int x :: st) F := fun hF => r_icmp_ge (F1 := F) (F2 := none) tgt C d ht kt (fun z => by cases z) (by rw [if_pos h]; exact hF)
theorem r_geF {x y : Int32} {off : Int} (tgt : Nat) (C : kC X g cc own rm nn) (d : decode cc pc = .ok (.if_icmp .ge off, 3)) (ht : (pc : Int) + off = (tgt : Int)) (h : ¬ y ≤ x) (kf : jJ X g res ws a b (pc + 3) lv st F) : jJ X g res ws a b pc lv (.int y :: .int x :: st) F := fun hF => r_icmp_ge (F1 := none) (F2 := F) tgt C d ht (fun z => by cases z) kf (by rw [if_neg h]; exact hF)
end ACTS
set_option maxRecDepth 100000 in
set_option maxHeartbeats 4000000 in
theorem l_X11_acts {X : KX} {g : KG} {res : Int32 × XS} {c : Nat} (hc : c ≤ 30) : ∀ (n : Nat) (a0 : Nat) (T : XS) (w : va_W), (C : kC X g cX11_acts "MarkChains" rm_X11_acts 3) → (hR : ∀ (v : Int32) (w1 : va_W) (pc : Nat) (lv : List (Nat × Value)), ((some (Value.int v) : Option Value) = some (Value.int res.1) ∧ cF g a0 res.2 w1) → decode cX11_acts pc = .ok (.ireturn, 1) → jW X g w1 30 150 pc lv [.int v]) → n ≤ c → cF g a0 T w → jJ X g res w (c - n) (5 * (c - n)) 43 [(0, .ref a0), (1, .int (nI c)), (2, .int (nI (c - n)))] [] (fx_run c n T) := by
  intro n
  induction n with
  | zero =>
    intro a0 T w C hR hn hT
    obtain ⟨S, dl⟩ := T
    have hT0 := hT
    obtain ⟨q, rg, DL, nx, rfl, rfl, -⟩ := hT
    rw [Nat.sub_zero]
    refine r_iload_n (pc := 43) C dX11_acts_43 2 rfl ?_
    refine r_iload_n (pc := 44) C dX11_acts_44 1 rfl ?_
    refine r_geT 78 (pc := 45) C dX11_acts_45 (by decide) (nI_le (Nat.le_refl c) (by omega)) ?_
    refine r_aload_n (pc := 78) C dX11_acts_78 0 rfl ?_
    refine xg_x_plan (pc := 79) C kw_2_78 dX11_acts_79 ?_
    refine xgN_ac_done (pc := 82) C knf_33 dX11_acts_82 ?_
    refine r_widen (a' := 30) (b' := 150) hc (by omega) ?_
    exact r_retX (Φ := fun (r : Int32 × XS) o w => o = some (.int r.1) ∧ cF g (q 0) r.2 w) hR ⟨rfl, hT0⟩ (pc := 85) dX11_acts_85
  | succ n ih =>
    intro a0 T w C hR hn hT
    obtain ⟨S, dl⟩ := T
    have hT0 := hT
    obtain ⟨q, rg, DL, nx, rfl, rfl, hDL, hnx, e19, e20, hr⟩ := hT
    dsimp only at hDL e19 e20
    refine r_iload_n (pc := 43) C dX11_acts_43 2 rfl ?_
    refine r_iload_n (pc := 44) C dX11_acts_44 1 rfl ?_
    refine r_geF 78 (pc := 45) C dX11_acts_45 (by decide) (nI_ge (by omega) (by omega)) ?_
    refine r_aload_n (pc := 48) C dX11_acts_48 0 rfl ?_
    refine xg_x_plan (pc := 49) C kw_2_78 dX11_acts_49 ?_
    refine xgN_ac_endedBy (pc := 52) C knf_34 dX11_acts_52 ?_
    refine r_iconst (pc := 55) C dX11_acts_55 (v := -1) (by decide) ?_
    show jJ X g res _ _ _ _ _ _ (if (S.1 18) = -1 then _ else _)
    refine r_icmp_ne 78 (pc := 56) C dX11_acts_56 (by decide) ?_ ?_
    · refine r_aload_n (pc := 78) C dX11_acts_78 0 rfl ?_
      refine xg_x_plan (pc := 79) C kw_2_78 dX11_acts_79 ?_
      refine xgN_ac_done (pc := 82) C knf_33 dX11_acts_82 ?_
      refine r_widen (a' := 30) (b' := 150) (by omega) (by omega) ?_
      exact r_retX (Φ := fun (r : Int32 × XS) o w => o = some (.int r.1) ∧ cF g (q 0) r.2 w) hR ⟨rfl, hT0⟩ (pc := 85) dX11_acts_85
    · refine r_aload_n (pc := 59) C dX11_acts_59 0 rfl ?_
      refine xg_x_plan (pc := 60) C kw_2_78 dX11_acts_60 ?_
      refine r_iload_n (pc := 63) C dX11_acts_63 2 rfl ?_
      refine r_aload_n (pc := 64) C dX11_acts_64 0 rfl ?_
      refine r_iload_n (pc := 65) C dX11_acts_65 2 rfl ?_
      refine r_cVX (Φ := fun r o w => okR S r ∧ pW g q rg (DL.flatMap (dcs g)) r o w) (As := [.int (nI (c - (n + 1)))]) (st := [.int (nI (c - (n + 1))), .ref (q 30)]) (mc := 1) (ms := 5) (pc := 66) C (fun r h l => (c_X11_perform h l).mono (fun _ _ hp => ⟨w_X11_perform h, hp⟩)) kY_X11_perform kw_5_123 kw_0_33 kw_5_121 rfl ⟨Nat.le_of_ble_eq_true rfl, Nat.le_of_ble_eq_true rfl⟩ rfl rfl ⟨by show c - (n + 1) + 1 ≤ 30; omega, by show 5 * (c - (n + 1)) + 5 ≤ 150; omega⟩ 0 rfl rfl rfl (Nat.le_of_ble_eq_true rfl) dX11_acts_66 (fun r o w hw => ?_)
      obtain ⟨hk, ho, hw⟩ := hw
      subst ho
      obtain ⟨v, S2, od⟩ := r
      have fin : ∀ (S1 : CS) (w : va_W), (∃ w' l', w.Perm (w' ++ l') ∧ cF g (q 0) (S1, xdl od dl) w') → jJ X g res w (c - (n + 1) + 1) (5 * (c - (n + 1)) + 5) 72 [(0, .ref (q 0)), (1, .int (nI c)), (2, .int (nI (c - (n + 1))))] [] (fx_run c n (S1, xdl od dl)) := by
        intro S1 w hw
        obtain ⟨w', l', h1, h2⟩ := hw
        refine r_drop h1 ?_
        have e1 : nI (c - (n + 1)) + 1 = nI (c - n) := by rw [nI_1, show c - (n + 1) + 1 = c - n by omega]
        refine r_iincP (pc := 72) (v := nI (c - n)) (lv' := [(0, .ref (q 0)), (1, .int (nI c)), (2, .int (nI (c - n)))]) C dX11_acts_72 2 rfl e1 (by decide) [1, 2, 0] rfl ?_
        refine r_goto 43 (pc := 75) C dX11_acts_75 (by decide) ?_
        have h3 := ih (q 0) (S1, xdl od dl) w' C hR (by omega) h2
        rw [show c - (n + 1) + 1 = c - n by omega, show 5 * (c - (n + 1)) + 5 = 5 * (c - n) by omega]
        exact h3
      cases od with
      | none =>
        have hw : w = cx g q (rc g q rg :: DL.flatMap (dcs g)) S2 := hw
        subst hw
        refine r_cVX (Φ := fun S1 o w => gI [17, 18] [33] S2 S1 ∧ o = none ∧ w = cx g q (rc g q rg :: DL.flatMap (dcs g)) S1) (As := [.int (nI (c - (n + 1))), .int v]) (st := []) (mc := 0) (ms := 0) (pc := 69) C (fun S1 h l => (c_X0_note h l).x ⟨w_X0_note h, rfl, rfl⟩) kY_X0_note kw_5_139 kw_5_140 kw_5_138 rfl ⟨Nat.le_of_ble_eq_true rfl, Nat.le_of_ble_eq_true rfl⟩ rfl rfl ⟨by show c - (n + 1) + 1 + 0 ≤ 30; omega, by show 5 * (c - (n + 1)) + 5 + 0 ≤ 150; omega⟩ 30 rfl rfl rfl (Nat.le_of_ble_eq_true rfl) dX11_acts_69 (fun S1 o w hw => ?_)
        obtain ⟨hg, rfl, rfl⟩ := hw
        exact fin S1 _ ⟨_, [], by rw [List.append_nil], q, rg, DL, nx, rfl, rfl, hDL, hnx, (hg.1 19 (by decide)).trans (hk.1.trans e19), (hg.1 20 (by decide)).trans (hk.2.1.trans e20), hr⟩
      | some d =>
        obtain ⟨ad, hw⟩ := hw
        subst hw
        have hkd : d.1.toNatClampNeg = nx := by rw [hk.1]; show (S.1 19).toNatClampNeg = nx; rw [e19]; exact nI_clamp (by omega)
        refine r_cVX (Φ := fun S1 o w => gI [17, 18] [33] S2 S1 ∧ o = none ∧ w = cx g q (rc g q (va_up rg d.1.toNatClampNeg (some ad)) :: dc ad d.2.1 d.2.2.1 d.2.2.2.1 d.2.2.2.2 none :: DL.flatMap (dcs g)) S1) (As := [.int (nI (c - (n + 1))), .int v]) (st := []) (mc := 0) (ms := 0) (pc := 69) C (fun S1 h l => (c_X0_note h l).x ⟨w_X0_note h, rfl, rfl⟩) kY_X0_note kw_5_139 kw_5_140 kw_5_138 rfl ⟨Nat.le_of_ble_eq_true rfl, Nat.le_of_ble_eq_true rfl⟩ rfl rfl ⟨by show c - (n + 1) + 1 + 0 ≤ 30; omega, by show 5 * (c - (n + 1)) + 5 + 0 ≤ 150; omega⟩ 30 rfl rfl rfl (Nat.le_of_ble_eq_true rfl) dX11_acts_69 (fun S1 o w hw => ?_)
        obtain ⟨hg, rfl, rfl⟩ := hw
        rw [hkd]
        exact fin S1 _ (cF_add (S := S) (dl := dl) (ad, (0, 0, 0, 0), (d.2.1, d.2.2.1, d.2.2.2.1, d.2.2.2.2, none)) hDL hnx e19 e20 hr ((hg.1 19 (by decide)).trans hk.2.1) ((hg.1 20 (by decide)).trans hk.2.2.1) rfl)
set_option maxRecDepth 100000 in
set_option maxHeartbeats 4000000 in
theorem x_acts {g : KG} {a0 : Nat} {T : XS} {w0 : va_W} {r : Int32 × XS} (h0 : cF g a0 T w0) (h : fx_acts T = some r) : ∀ l, kMx l yX11_acts cX11_acts 3 (some .int) rm_X11_acts g [.ref a0] w0 (fun o w => o = some (.int r.1) ∧ cF g a0 r.2 w) 30 150 := by
  obtain ⟨S, dl⟩ := T
  obtain ⟨q, rg, DL, nx, rfl, rfl, hDL, hnx, e19, e20, hr⟩ := h0
  dsimp only at hDL e19 e20
  refine k_openx_i (own := "MarkChains") (by decide) rfl (Nat.le_of_ble_eq_true rfl) (fun X C hR => ?_)
  refine (?_ : jJ X g r (cx g q (rc g q rg :: DL.flatMap (dcs g)) S) 0 0 0 [(0, .ref (q 0))] [] (fx_acts (S, dl))) h
  unfold fx_acts
  refine r_aload_n (pc := 0) C dX11_acts_0 0 rfl ?_
  refine xg_x_tape (pc := 1) C kw_2_74 dX11_acts_1 ?_
  refine r_cVX (Φ := fun S1 o w => i1 S S1 ∧ o = none ∧ w = cx g q (rc g q rg :: DL.flatMap (dcs g)) S1) (As := []) (st := []) (mc := 0) (ms := 0) (pc := 4) C (fun S1 h l => (c_X10_beginReading h l).x ⟨i1_tr i1_rf (w_X10_beginReading h) (by decide) (by decide), rfl, rfl⟩) kY_X10_beginReading kw_2_135 kw_2_136 kw_2_134 rfl ⟨Nat.le_of_ble_eq_true rfl, Nat.le_of_ble_eq_true rfl⟩ rfl rfl ⟨Nat.le_of_ble_eq_true rfl, Nat.le_of_ble_eq_true rfl⟩ 1 rfl rfl rfl (Nat.le_of_ble_eq_true rfl) dX11_acts_4 (fun S1 o w hw => ?_)
  obtain ⟨h1, rfl, rfl⟩ := hw
  refine r_aload_n (pc := 7) C dX11_acts_7 0 rfl ?_
  refine xg_x_plan (pc := 8) C kw_2_78 dX11_acts_8 ?_
  refine r_aload_n (pc := 11) C dX11_acts_11 0 rfl ?_
  refine xg_x_tape (pc := 12) C kw_2_74 dX11_acts_12 ?_
  refine r_cVX (Φ := fun (z : Int32 × CS) o w => i1 S z.2 ∧ o = some (.int z.1) ∧ w = cx g q (rc g q rg :: DL.flatMap (dcs g)) z.2) (As := [.ref (q 1)]) (st := []) (mc := 0) (ms := 0) (pc := 15) C (fun z h l => (c_X0_readFrom (S' := z.2) (r := z.1) h l).x ⟨i1_tr h1 (w_X0_readFrom h) (by decide) (by decide), rfl, rfl⟩) kY_X0_readFrom kw_5_100 kw_5_101 kw_5_99 rfl ⟨Nat.le_of_ble_eq_true rfl, Nat.le_of_ble_eq_true rfl⟩ rfl rfl ⟨Nat.le_of_ble_eq_true rfl, Nat.le_of_ble_eq_true rfl⟩ 30 rfl rfl rfl (Nat.le_of_ble_eq_true rfl) dX11_acts_15 (fun z o w hw => ?_)
  obtain ⟨c, S2⟩ := z
  obtain ⟨h2, rfl, rfl⟩ := hw
  refine r_istore_n (pc := 18) C dX11_acts_18 (lv' := [(0, .ref (q 0)), (1, .int c)]) (by decide) [1, 0] rfl ?_
  refine r_aload_n (pc := 19) C dX11_acts_19 0 rfl ?_
  refine xg_x_tape (pc := 20) C kw_2_74 dX11_acts_20 ?_
  refine r_iconst (pc := 23) C dX11_acts_23 (v := 0) (by decide) ?_
  have h3 : i1 S (ci S2 1 0) := i1_ci h2 (by decide) (by decide)
  refine (?_ : jJ X g r _ _ _ _ _ _ (if c = -1 then some (-1, (ci S2 1 0, dl)) else chk c 31 (bp (f_X0_begin (ci S2 1 0)) (fun S4 => fx_run c.toNatClampNeg c.toNatClampNeg (S4, dl)))))
  refine r_putRN (pc := 24) (k := 1) (ty := .int) (ws' := cx g q (rc g q rg :: DL.flatMap (dcs g)) (ci S2 1 0)) C kin_X10 tyX10 tyX10_ok nmX10 knf_0 1 rfl rfl (by decide) rfl rfl (by decide +kernel) rfl rfl (Nat.le_of_ble_eq_true rfl) rfl dX11_acts_24 ?_
  generalize ci S2 1 0 = S3 at h3 ⊢
  refine r_iload_n (pc := 27) C dX11_acts_27 1 rfl ?_
  refine r_iconst (pc := 28) C dX11_acts_28 (v := -1) (by decide) ?_
  refine r_icmp_ne 34 (pc := 29) C dX11_acts_29 (by decide) ?_ ?_
  · intro hF
    obtain ⟨hi, hF2⟩ := chk_in hF
    obtain ⟨n, hn, en⟩ := vp_in_of hi (by decide)
    have ec : c.toNatClampNeg = n := by rw [en]; exact nI_clamp (by omega)
    rw [ec] at hF2
    clear hF
    subst en
    refine (?_ : jJ X g r (cx g q (rc g q rg :: DL.flatMap (dcs g)) S3) 0 0 34 [(0, .ref (q 0)), (1, .int (nI n))] [] (bp (f_X0_begin S3) (fun S4 => fx_run n n (S4, dl)))) hF2
    refine r_aload_n (pc := 34) C dX11_acts_34 0 rfl ?_
    refine xg_x_plan (pc := 35) C kw_2_78 dX11_acts_35 ?_
    refine r_cVX (Φ := fun S1 o w => i1 S S1 ∧ o = none ∧ w = cx g q (rc g q rg :: DL.flatMap (dcs g)) S1) (As := []) (st := []) (mc := 0) (ms := 0) (pc := 38) C (fun S1 h l => (c_X0_begin h l).x ⟨i1_tr h3 (w_X0_begin h) (by decide) (by decide), rfl, rfl⟩) kY_X0_begin kw_5_118 kw_5_119 kw_5_117 rfl ⟨Nat.le_of_ble_eq_true rfl, Nat.le_of_ble_eq_true rfl⟩ rfl rfl ⟨Nat.le_of_ble_eq_true rfl, Nat.le_of_ble_eq_true rfl⟩ 30 rfl rfl rfl (Nat.le_of_ble_eq_true rfl) dX11_acts_38 (fun S4 o w hw => ?_)
    obtain ⟨h4, rfl, rfl⟩ := hw
    refine r_iconst (pc := 41) C dX11_acts_41 (v := 0) (by decide) ?_
    refine r_istore_n (pc := 42) C dX11_acts_42 (lv' := [(0, .ref (q 0)), (1, .int (nI n)), (2, .int 0)]) (by decide) [1, 2, 0] rfl ?_
    have h5 := l_X11_acts (X := X) (g := g) (res := r) (c := n) (by omega) n (q 0) (S4, dl) (cx g q (rc g q rg :: DL.flatMap (dcs g)) S4) C hR (Nat.le_refl n) ⟨q, rg, DL, nx, rfl, rfl, hDL, hnx, h4.1.trans e19, h4.2.1.trans e20, hr⟩
    rw [Nat.sub_self] at h5
    exact h5
  · refine r_iconst (pc := 32) C dX11_acts_32 (v := -1) (by decide) ?_
    refine r_widen (a' := 30) (b' := 150) (Nat.zero_le _) (Nat.zero_le _) ?_
    exact r_retX (Φ := fun (r : Int32 × XS) o w => o = some (.int r.1) ∧ cF g (q 0) r.2 w) hR ⟨rfl, q, rg, DL, nx, rfl, rfl, hDL, hnx, h3.1.trans e19, h3.2.1.trans e20, hr⟩ (pc := 33) dX11_acts_33
