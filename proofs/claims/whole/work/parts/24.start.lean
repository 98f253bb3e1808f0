def R_law : String := "MarkChainsLaw"
def lw_P (b : Addr) (xs : List Int32) (args : Array Value) (s : State) : Prop := args = #[.ref b] ∧ s.IntsAt b xs ∧ xs.length ≤ 3072 ∧ (Jvm.Cond.and given_1 narrow_1).before args s = true
def lw_Q (_ : Array Value) (s : State) (o : Outcome) (t : State) : Prop := o = .returned (some (.int 1)) ∧ Framed s o t [] 600000 7302250
def lw_Z (below : List Frame) (a : Array Value) (s : State) : State → Prop := fun t => ∃ o, t.status = .running ∧ Ended t below o ∧ lw_Q a s o t
/-- the law's own end, with 1 on the stack, nothing written that was there before, its room as the claim has it -/
theorem lw_ret {p : Program} {l : Launch} {e : Env} {s : State} {m : MethodId} {below : List Frame} {meth : Method} {c : Code} {b : Nat} (hx : p.tables.exec = Jvm.exec) (hb : c.code = code) (hr : meth.sig.returnType = ret) (hlocks : meth.locks = false) {pc : Nat} {H : Heap} {ls : Array Slot} (hdg : decode code pc = .ok (.ireturn, 1)) : W p l e room_1 s m #[Value.ref b] below meth c H [] 600000 7302250 (lw_Z below #[Value.ref b] s) (F0 m pc ls [.int 1]) := by
  intro T hT X
  obtain ⟨fs, hret, hrun, hended, hW, hframe⟩ := X.leave (v := some (.int 1)) (hlocks := hlocks) (fun h => by rw [hr] at h; cases h)
  have hmeth' : T.vm.method? m = some meth := X.method'
  refine ⟨T.setFrames fs, ?_, .returned (some (.int 1)), hrun, hended, rfl, ⟨_, rfl⟩, hW, hframe⟩
  jvm_step X.here [X.here.top, hx, hb, hdg, hmeth', hr, ret, narrow_b1]
  (try refine ⟨rfl, ?_⟩); (try refine ⟨rfl, ?_⟩)
  first | (intro acts; rw [hret _ acts rfl rfl rfl]) | rw [hret _ _ rfl rfl rfl]
  exact Steps.refl _
/-- what holds at the law's entry: the machine, the code, the tables' words (any of lw_tbl by 'hts w (by decide +kernel)'), the script of L ints xs at the cell b, what the Statement gives of the start (any of its parts by flat_of_before) -/
def lw_At (p : Program) (s : State) (m : MethodId) (meth : Method) (c : Code) (b L : Nat) (xs : Nat → Int32) : Prop :=
  p.tables.exec = Jvm.exec ∧ c.code = code ∧ meth.sig.returnType = ret ∧ c.maxLocals = 4 ∧ s.vm.findClass R_law = some m.cls ∧ (∀ w ∈ lw_tbl, w.before #[Value.ref b] s = true) ∧ va_X b L xs s s.heap ∧ b < s.heap.size ∧ meth.locks = false ∧ (Jvm.Cond.and given_1 narrow_1).before #[Value.ref b] s = true
/-! THE START: what the first state gives, and the walk of the two constructors, open in LOK -/
abbrev sA (s : State) : Nat → Prop := fun q => s.heap.size ≤ q
theorem sA_no {s : State} : ∀ a : Nat, a < s.heap.size → ¬ sA s a := fun _ h h' => absurd h (Nat.not_lt.mpr h')
theorem ks_arr {s : State} {args : Array Value} {C n : String} {N : Nat} {z : List Int32} (hts : ∀ w ∈ lw_tbl, w.before args s = true) (hN : N < 2 ^ 31) (hl : Cond.laysStatic C n "[I" ∈ lw_tbl) (hi : Cond.initialized C ∈ lw_tbl) (harr : (Cond.arrayOf (.static C n "[I") .int).before args s = true) (hlen : (Cond.eq (.length (.static C n "[I")) (.int (Int32.ofNat N))).before args s = true) (hel : ∀ j : Nat, j < N → (Cond.eq (.elem (.static C n "[I") (.int (Int32.ofNat j))) (.int (z.getD j 0))).before args s = true) : ∃ t : Nat, va_Z C n "[I" (.ref t) (sA s) s s.heap ∧ va_T .int t N (fun j => .int (z.getD j 0)) (sA s) s s.heap := by
  obtain ⟨t, ht, hT⟩ := va_Tof (f := fun j => .int (z.getD j 0)) (A := sA s) hN harr (va_eqt hlen) (fun j hj => va_eqt (hel j hj)) sA_no
  exact ⟨t, va_Zref (hts _ hl) (hts _ hi) ht sA_no, hT⟩
theorem ks_a0_el : ∀ j : Nat, j < 7 → Cond.eq (.elem (.static "MarkChains" "PAPER_SETS" "[I") (.int (Int32.ofNat j))) (.int (([1, 2, 4, 3, 5, 6, 7] : List Int32).getD j 0)) ∈ flatC (Jvm.Cond.and given_1 narrow_1) := by decide +kernel
theorem ks_a0 {s : State} {args : Array Value} (hts : ∀ w ∈ lw_tbl, w.before args s = true) (hg : (Jvm.Cond.and given_1 narrow_1).before args s = true) : ∃ t : Nat, va_Z "MarkChains" "PAPER_SETS" "[I" (.ref t) (sA s) s s.heap ∧ va_T .int t 7 (fun j => .int (([1, 2, 4, 3, 5, 6, 7] : List Int32).getD j 0)) (sA s) s s.heap :=
  ks_arr hts (by decide) (by decide +kernel) (kTb_lw kw_1_1) (flat_of_before _ hg _ (by decide +kernel)) (flat_of_before _ hg _ (by decide +kernel)) (fun j hj => flat_of_before _ hg _ (ks_a0_el j hj))
theorem ks_a1_el : ∀ j : Nat, j < 7 → Cond.eq (.elem (.static "MarkChains$Book" "AGES" "[I") (.int (Int32.ofNat j))) (.int (([18, 20, 23, 35, 40, 45, 50] : List Int32).getD j 0)) ∈ flatC (Jvm.Cond.and given_1 narrow_1) := by decide +kernel
theorem ks_a1 {s : State} {args : Array Value} (hts : ∀ w ∈ lw_tbl, w.before args s = true) (hg : (Jvm.Cond.and given_1 narrow_1).before args s = true) : ∃ t : Nat, va_Z "MarkChains$Book" "AGES" "[I" (.ref t) (sA s) s s.heap ∧ va_T .int t 7 (fun j => .int (([18, 20, 23, 35, 40, 45, 50] : List Int32).getD j 0)) (sA s) s s.heap :=
  ks_arr hts (by decide) (by decide +kernel) (kTb_lw kw_1_3) (flat_of_before _ hg _ (by decide +kernel)) (flat_of_before _ hg _ (by decide +kernel)) (fun j hj => flat_of_before _ hg _ (ks_a1_el j hj))
theorem ks_a2_el : ∀ j : Nat, j < 15 → Cond.eq (.elem (.static "MarkChains$ItemReader" "LOWEST" "[I") (.int (Int32.ofNat j))) (.int (([0, -1, 0, 0, -30000, 0, 0, 0, 0, 0, 0, 1, -99, 0, 0] : List Int32).getD j 0)) ∈ flatC (Jvm.Cond.and given_1 narrow_1) := by decide +kernel
theorem ks_a2 {s : State} {args : Array Value} (hts : ∀ w ∈ lw_tbl, w.before args s = true) (hg : (Jvm.Cond.and given_1 narrow_1).before args s = true) : ∃ t : Nat, va_Z "MarkChains$ItemReader" "LOWEST" "[I" (.ref t) (sA s) s s.heap ∧ va_T .int t 15 (fun j => .int (([0, -1, 0, 0, -30000, 0, 0, 0, 0, 0, 0, 1, -99, 0, 0] : List Int32).getD j 0)) (sA s) s s.heap :=
  ks_arr hts (by decide) (by decide +kernel) (kTb_lw kw_1_6) (flat_of_before _ hg _ (by decide +kernel)) (flat_of_before _ hg _ (by decide +kernel)) (fun j hj => flat_of_before _ hg _ (ks_a2_el j hj))
theorem ks_a3_el : ∀ j : Nat, j < 15 → Cond.eq (.elem (.static "MarkChains$ItemReader" "HIGHEST" "[I") (.int (Int32.ofNat j))) (.int (([1, 99, 5, 5000, 20000, 5, 6, 16, 8, 20000, 1439, 1000000, 99, 99, 63] : List Int32).getD j 0)) ∈ flatC (Jvm.Cond.and given_1 narrow_1) := by decide +kernel
theorem ks_a3 {s : State} {args : Array Value} (hts : ∀ w ∈ lw_tbl, w.before args s = true) (hg : (Jvm.Cond.and given_1 narrow_1).before args s = true) : ∃ t : Nat, va_Z "MarkChains$ItemReader" "HIGHEST" "[I" (.ref t) (sA s) s s.heap ∧ va_T .int t 15 (fun j => .int (([1, 99, 5, 5000, 20000, 5, 6, 16, 8, 20000, 1439, 1000000, 99, 99, 63] : List Int32).getD j 0)) (sA s) s s.heap :=
  ks_arr hts (by decide) (by decide +kernel) (kTb_lw kw_1_6) (flat_of_before _ hg _ (by decide +kernel)) (flat_of_before _ hg _ (by decide +kernel)) (fun j hj => flat_of_before _ hg _ (ks_a3_el j hj))
theorem ks_a4_el : ∀ j : Nat, j < 5 → Cond.eq (.elem (.static "MarkChains$Acts" "NUMBERS" "[I") (.int (Int32.ofNat j))) (.int (([1, 1, 1, 2, 3] : List Int32).getD j 0)) ∈ flatC (Jvm.Cond.and given_1 narrow_1) := by decide +kernel
theorem ks_a4 {s : State} {args : Array Value} (hts : ∀ w ∈ lw_tbl, w.before args s = true) (hg : (Jvm.Cond.and given_1 narrow_1).before args s = true) : ∃ t : Nat, va_Z "MarkChains$Acts" "NUMBERS" "[I" (.ref t) (sA s) s s.heap ∧ va_T .int t 5 (fun j => .int (([1, 1, 1, 2, 3] : List Int32).getD j 0)) (sA s) s s.heap :=
  ks_arr hts (by decide) (by decide +kernel) (kTb_lw kw_1_8) (flat_of_before _ hg _ (by decide +kernel)) (flat_of_before _ hg _ (by decide +kernel)) (fun j hj => flat_of_before _ hg _ (ks_a4_el j hj))
def ks_tm : Nat → Term := fun i => match i with
  | 0 => .string "MarkChains$ItemReader" 29
  | 1 => .string "MarkChains$FormulaReader" 121
  | _ => .string "MarkChains$Acts" 38
def ks_len : List Nat := [4, 13, 5]
def ks_byt : List (List Int32) := [[101, 112, 97, 109], [118, 119, 115, 104, 103, 101, 100, 109, 108, 98, 120, 121, 122], [114, 115, 100, 112, 98]]
theorem ks_s1 : ∀ i : Nat, i < 3 → Cond.exactly (ks_tm i) "java/lang/String" ∈ flatC (Jvm.Cond.and given_1 narrow_1) := by decide +kernel
theorem ks_s2 : ∀ i : Nat, i < 3 → Cond.eq (.field (ks_tm i) "java/lang/String" "coder" "B") (.int 0) ∈ flatC (Jvm.Cond.and given_1 narrow_1) := by decide +kernel
theorem ks_s3 : ∀ i : Nat, i < 3 → Cond.arrayOf (.field (ks_tm i) "java/lang/String" "value" "[B") .byte ∈ flatC (Jvm.Cond.and given_1 narrow_1) := by decide +kernel
theorem ks_s4 : ∀ i : Nat, i < 3 → Cond.eq (.length (.field (ks_tm i) "java/lang/String" "value" "[B")) (.int (Int32.ofNat (ks_len.getD i 0))) ∈ flatC (Jvm.Cond.and given_1 narrow_1) := by decide +kernel
theorem ks_s5 : ∀ i : Nat, i < 3 → ∀ j : Nat, j < ks_len.getD i 0 → Cond.eq (.elem (.field (ks_tm i) "java/lang/String" "value" "[B") (.int (Int32.ofNat j))) (.int ((ks_byt.getD i []).getD j 0)) ∈ flatC (Jvm.Cond.and given_1 narrow_1) := by decide +kernel
theorem ks_s6 : ∀ i : Nat, i < 3 → ∀ j : Nat, j < 3 → i ≠ j → Cond.not (Cond.eq (ks_tm i) (ks_tm j)) ∈ flatC (Jvm.Cond.and given_1 narrow_1) ∨ Cond.not (Cond.eq (ks_tm j) (ks_tm i)) ∈ flatC (Jvm.Cond.and given_1 narrow_1) := by decide +kernel
theorem ks_str {s : State} {args : Array Value} (hg : (Jvm.Cond.and given_1 narrow_1).before args s = true) : ∃ adK adV : Nat → Nat, vk_S 3 [4, 13, 5] ks_byt adK adV (sA s) s s.heap ∧ ∀ i : Nat, i < 3 → (ks_tm i).eval args s none [] s = some (.ref (adK i)) :=
  vk_Sof (len := ks_len) (byt := ks_byt) (tm := ks_tm) (A := sA s) (by decide) (fun i h => flat_of_before _ hg _ (ks_s1 i h)) (fun i h => flat_of_before _ hg _ (ks_s2 i h)) (fun i h => flat_of_before _ hg _ (ks_s3 i h)) (fun i h => flat_of_before _ hg _ (ks_s4 i h)) (fun i h j hj => flat_of_before _ hg _ (ks_s5 i h j hj)) (fun i j hi hj hij => (ks_s6 i hi j hj hij).imp (fun h => flat_of_before _ hg _ h) (fun h => flat_of_before _ hg _ h)) sA_no
theorem ks_nf : ∀ t ∈ kNF, Cond.fieldLinkNest t.1 t.2.1 t.2.2.1 t.2.2.2.1 t.2.2.2.2.1 t.2.2.2.2.2 ∈ lw_tbl := by decide +kernel
theorem ks_nm : ∀ t ∈ kNM, Cond.methodLinkNest t.1 t.2.1 t.2.2.1 t.2.2.2 ∈ lw_tbl := by decide +kernel
theorem ks_w0 : Cond.arrayOver (.object "MarkChains$Deed") ∈ lw_tbl := by decide +kernel
theorem ks_w1 : Cond.castable "[I" "java/lang/Cloneable" ∈ lw_tbl := by decide +kernel
theorem ks_w2 : Cond.laysStatic "java/lang/String" "COMPACT_STRINGS" "Z" ∈ lw_tbl := by decide +kernel
theorem ks_r0 : Cond.stringRef "MarkChains$ItemReader" 29 "epam" ∈ lw_tbl := by decide +kernel
theorem ks_r1 : Cond.stringRef "MarkChains$FormulaReader" 121 "vwshgedmlbxyz" ∈ lw_tbl := by decide +kernel
theorem ks_r2 : Cond.stringRef "MarkChains$Acts" 38 "rsdpb" ∈ lw_tbl := by decide +kernel
theorem ks_start {s : State} {b : Nat} (hts : ∀ w ∈ lw_tbl, w.before #[.ref b] s = true) (hg : (Jvm.Cond.and given_1 narrow_1).before #[.ref b] s = true) (dg : va_G) (ar : ClassId × ClassId × ClassId × ClassId) : ∃ ad : Nat → Nat, kS (dg, ar, s.heap.size, ad) s s.heap := by
  obtain ⟨t0, h0⟩ := ks_a0 hts hg
  obtain ⟨t1, h1⟩ := ks_a1 hts hg
  obtain ⟨t2, h2⟩ := ks_a2 hts hg
  obtain ⟨t3, h3⟩ := ks_a3 hts hg
  obtain ⟨t4, h4⟩ := ks_a4 hts hg
  obtain ⟨aK, aV, hS, hE⟩ := ks_str hg
  have hc : va_Z "java/lang/String" "COMPACT_STRINGS" "Z" (.int 1) (sA s) s s.heap := va_Zof (hts _ ks_w2) (hts _ (kTb_lw kw_1_14)) (va_eqi (flat_of_before _ hg _ (by decide +kernel))) sA_no
  refine ⟨fun i => match i with | 0 => t0 | 1 => t1 | 2 => t2 | 3 => t3 | 4 => t4 | 5 => aK 0 | 6 => aK 1 | 7 => aK 2 | 8 => aV 0 | 9 => aV 1 | _ => aV 2, fun t ht => va_Nw.of rfl (hts _ (ks_nf t ht)), fun t ht => va_Nw.of rfl (hts _ (ks_nm t ht)), va_AO.of (hts _ ks_w0), va_Nw.of rfl (hts _ ks_w1), h0, h1, h2, h3, h4, hc, vk_R.of (hts _ ks_r0) (hE 0 (by decide)), vk_R.of (hts _ ks_r1) (hE 1 (by decide)), vk_R.of (hts _ ks_r2) (hE 2 (by decide)), ?_, ?_⟩
  rotate_left
  · intro i j hi hj he
    refine hS.2 i j hi hj ?_
    match i, hi, j, hj, he with
    | 0, _, 0, _, he => exact he
    | 0, _, 1, _, he => exact he
    | 0, _, 2, _, he => exact he
    | 1, _, 0, _, he => exact he
    | 1, _, 1, _, he => exact he
    | 1, _, 2, _, he => exact he
    | 2, _, 0, _, he => exact he
    | 2, _, 1, _, he => exact he
    | 2, _, 2, _, he => exact he
  intro i hi
  match i, hi with
  | 0, _ => exact hS.1 0 (by decide)
  | 1, _ => exact hS.1 1 (by decide)
  | 2, _ => exact hS.1 2 (by decide)
theorem ks_prim {s : State} {args : Array Value} {t : FieldType} (h : (Cond.arrayClass t).before args s = true) (hc : ∀ C, t ≠ .object C) : ∃ c, ArrOfT s c t ∧ va_RA s c t := by
  obtain ⟨c, k, comp, h1, h2, h3⟩ := Cond.arrayClass_spec h
  refine ⟨c, fun N z => ⟨(fun k h => by cases h), k, h2, comp, h3⟩, ?_⟩
  cases t with
  | object C => exact absurd rfl (hc C)
  | _ => exact h1
theorem ks_obj {s : State} {args : Array Value} {C : String} (h : (Cond.arrayOver (.object C)).before args s = true) : ∃ c, ArrOfT s c (.object C) ∧ va_RA s c (.object C) := by
  obtain ⟨comp, c, k, h1, -, h2, h3, h4⟩ := Cond.arrayOver_spec h
  exact ⟨c, fun N z => ⟨(fun k h => by cases h), k, h2, comp, h3⟩, k, comp, h2, h3, h1, h4⟩
theorem ks_K {s : State} {b : Nat} (hts : ∀ w ∈ lw_tbl, w.before #[.ref b] s = true) : ∃ (dg : va_G) (ar : ClassId × ClassId × ClassId × ClassId), ∀ (n : Nat) (ad : Nat → Nat), va_K dg vwCl (kT (dg, ar, n, ad)) s := by
  obtain ⟨c0, i0, k0⟩ := u_known (fun w h => hts w (kTb_lw h)) kin_X0 (hts _ (kTb_lw kw_1_216))
  obtain ⟨c1, i1, k1⟩ := u_known (fun w h => hts w (kTb_lw h)) kin_X1 (hts _ (kTb_lw kw_1_62))
  obtain ⟨c2, i2, k2⟩ := u_known (fun w h => hts w (kTb_lw h)) kin_X2 (hts _ (kTb_lw kw_3_93))
  obtain ⟨c3, i3, k3⟩ := u_known (fun w h => hts w (kTb_lw h)) kin_X3 (hts _ (kTb_lw kw_2_1))
  obtain ⟨c4, i4, k4⟩ := u_known (fun w h => hts w (kTb_lw h)) kin_X4 (hts _ (kTb_lw kw_2_56))
  obtain ⟨c5, i5, k5⟩ := u_known (fun w h => hts w (kTb_lw h)) kin_X5 (hts _ (kTb_lw kw_1_175))
  obtain ⟨c6, i6, k6⟩ := u_known (fun w h => hts w (kTb_lw h)) kin_X6 (hts _ (kTb_lw kw_1_162))
  obtain ⟨c7, i7, k7⟩ := u_known (fun w h => hts w (kTb_lw h)) kin_X7 (hts _ (kTb_lw kw_2_20))
  obtain ⟨c8, i8, k8⟩ := u_known (fun w h => hts w (kTb_lw h)) kin_X8 (hts _ (kTb_lw kw_1_68))
  obtain ⟨c9, i9, k9⟩ := u_known (fun w h => hts w (kTb_lw h)) kin_X9 (hts _ (kTb_lw kw_2_41))
  obtain ⟨c10, i10, k10⟩ := u_known (fun w h => hts w (kTb_lw h)) kin_X10 (hts _ (kTb_lw kw_1_31))
  obtain ⟨c11, i11, k11⟩ := u_known (fun w h => hts w (kTb_lw h)) kin_X11 (hts _ (kTb_lw kw_1_23))
  obtain ⟨c12, i12, k12⟩ := u_known (fun w h => hts w (kTb_lw h)) kin_X12 (hts _ (kTb_lw kw_6_1))
  obtain ⟨aI, hI⟩ := ks_prim (t := .int) (hts _ (kTb_lw kw_1_60)) (fun _ h => by cases h)
  obtain ⟨aB, hB⟩ := ks_prim (t := .byte) (hts _ (kTb_lw kw_3_119)) (fun _ h => by cases h)
  obtain ⟨aZ, hZ⟩ := ks_prim (t := .boolean) (hts _ (kTb_lw kw_6_106)) (fun _ h => by cases h)
  obtain ⟨aD, hD⟩ := ks_obj (hts _ ks_w0)
  refine ⟨(fun c => ([c0, c1, c2, c3, c4, c5, c6, c7, c8, c9, c10, c11, c12] : List ClassId).getD c 0, fun c => ([i0, i1, i2, i3, i4, i5, i6, i7, i8, i9, i10, i11, i12] : List (Nat → Nat)).getD c (fun _ => 0)), (aI, aB, aZ, aD), fun n ad => ⟨fun c q hq => ?_, fun k q hq => ?_⟩⟩
  · match c, hq with
    | 0, hq => cases hq; exact k0
    | 1, hq => cases hq; exact k1
    | 2, hq => cases hq; exact k2
    | 3, hq => cases hq; exact k3
    | 4, hq => cases hq; exact k4
    | 5, hq => cases hq; exact k5
    | 6, hq => cases hq; exact k6
    | 7, hq => cases hq; exact k7
    | 8, hq => cases hq; exact k8
    | 9, hq => cases hq; exact k9
    | 10, hq => cases hq; exact k10
    | 11, hq => cases hq; exact k11
    | 12, hq => cases hq; exact k12
  · match k, hq with
    | 0, hq => cases hq; exact hI
    | 1, hq => cases hq; exact hB
    | 2, hq => cases hq; exact hZ
    | 3, hq => cases hq; exact hD
set_option maxRecDepth 100000 in
set_option maxHeartbeats 4000000 in
theorem start_walk {X : KX} {g : KG} {b L : Nat} {xs : Nat → Int32} (C : kC X g cL_law "MarkChainsLaw" room_1 4) (hs : kScr X b L xs) (hL : L ≤ 3072) {RL : XS → MS → Prop} (hO : LOK RL) (hR : ∀ (ws : va_W) (a b pc : Nat) (lv : List (Nat × Value)), a ≤ 600000 → b ≤ 7302250 → decode cL_law pc = .ok (.ireturn, 1) → jJ X g () ws a b pc lv [.int 1] (some ())) : jJ X g () [] 0 0 0 [(0, .ref b)] [] (some ()) := by
  refine r_new (pc := 0) (ci := 11) (fs := [.null, .null, .null, .null, .null, .null, .null, .null, .null, .null, .null, .null, .int 0]) C kin_X11 tyX11 tyX11_ok kw_1_22 kw_1_23 kw_1_1 rfl kfs_X11 ⟨Nat.le_of_ble_eq_true rfl, Nat.le_of_ble_eq_true rfl⟩ dL_law_0 (fun a1 => ?_)
  refine r_dup (pc := 3) C dL_law_3 rfl ?_
  refine r_cIx (α := Unit) (fN := some ()) (Φ := fun _ o w => o = none ∧ cF g a1 (cS0, []) w) (G := fun _ => some ()) (wc := [(a1, .inr (11, [.null, .null, .null, .null, .null, .null, .null, .null, .null, .null, .null, .null, .int 0]))]) (wr := []) (As := []) (st := [.ref a1]) (mc := 52) (ms := 3498) (pc := 4) C (fun _ _ => c_X11_init) kY_X11_init kw_1_25 rfl kw_1_24 rfl ⟨Nat.le_of_ble_eq_true rfl, Nat.le_of_ble_eq_true rfl⟩ rfl rfl ⟨Nat.le_of_ble_eq_true rfl, Nat.le_of_ble_eq_true rfl⟩ rfl rfl (Nat.le_of_ble_eq_true rfl) dL_law_4 (fun _ o w hw => ?_)
  obtain ⟨rfl, hT⟩ := hw
  refine r_weq (ws' := w) (List.append_nil _) ?_
  refine r_astore_n (pc := 7) (lv' := [(0, .ref b), (1, .ref a1)]) C dL_law_7 (by decide) [1, 0] rfl ?_
  refine r_new (pc := 8) (ci := 12) (fs := [.null, .null, .null, .int 0, .null, .int 0, .int 0, .int 0, .int 0, .null, .null, .int 0, .int 0, .null, .null, .null, .int 0, .null, .null, .null, .int 0, .int 0, .int 0, .null, .int 0, .int 0, .null, .null, .int 0, .int 0, .int 0, .null, .int 0]) C kin_X12 tyX12 tyX12_ok kw_6_0 kw_6_1 kw_1_13 rfl kfs_X12 ⟨Nat.le_of_ble_eq_true rfl, Nat.le_of_ble_eq_true rfl⟩ dL_law_8 (fun a2 => ?_)
  refine r_dup (pc := 11) C dL_law_11 rfl ?_
  refine r_perm (ws' := [(a2, .inr (12, [.null, .null, .null, .int 0, .null, .int 0, .int 0, .int 0, .int 0, .null, .null, .int 0, .int 0, .null, .null, .null, .int 0, .null, .null, .null, .int 0, .int 0, .int 0, .null, .int 0, .int 0, .null, .null, .int 0, .int 0, .int 0, .null, .int 0]))] ++ w) k_p2 ?_
  refine r_cIx (α := Unit) (fN := some ()) (Φ := fun _ => ph_X12_init g a2) (G := fun _ => some ()) (wc := [(a2, .inr (12, [.null, .null, .null, .int 0, .null, .int 0, .int 0, .int 0, .int 0, .null, .null, .int 0, .int 0, .null, .null, .null, .int 0, .null, .null, .null, .int 0, .int 0, .int 0, .null, .int 0, .int 0, .null, .null, .int 0, .int 0, .int 0, .null, .int 0]))]) (wr := w) (As := []) (st := [.ref a2]) (mc := 16) (ms := 18212) (pc := 12) C (fun _ _ => c_X12_init) kY_X12_init kw_6_3 rfl kw_6_2 rfl ⟨Nat.le_of_ble_eq_true rfl, Nat.le_of_ble_eq_true rfl⟩ rfl rfl ⟨Nat.le_of_ble_eq_true rfl, Nat.le_of_ble_eq_true rfl⟩ rfl rfl (Nat.le_of_ble_eq_true rfl) dL_law_12 (fun _ o w1 hw => ?_)
  obtain ⟨rfl, q, hq, rfl⟩ := ph_model hw
  refine r_perm (ws' := w ++ mw g q mS0) k_p2 ?_
  refine r_astore_n (pc := 15) (lv' := [(0, .ref b), (1, .ref a1), (2, .ref a2)]) C dL_law_15 (by decide) [1, 2, 0] rfl ?_
  refine r_iconst (pc := 16) C dL_law_16 (v := 0) (by decide) ?_
  refine r_istore_n (pc := 17) (lv' := [(0, .ref b), (1, .ref a1), (2, .ref a2), (3, .int 0)]) C dL_law_17 (by decide) [1, 2, 3, 0] rfl ?_
  refine r_widen (a' := 100 + 30 * 0) (b' := 22000 + 677 * 0) (by decide) (by decide) ?_
  rw [← hq]
  exact law_loop C hs hL hO hR (L + 1) 0 (cS0, []) mS0 w (by omega) (by omega) hO.1 hT
/-- from the entry to the law's end, if the two readings agree -/
theorem whole_open {RL : XS → MS → Prop} (hO : LOK RL) {p : Program} {e : Env} {s : State} {m : MethodId} {below : List Frame} {meth : Method} {c : Code} (l : Launch) {b L : Nat} {xs : Nat → Int32} (hL : L ≤ 3072) (C0 : lw_At p s m meth c b L xs) : W p l e room_1 s m #[Value.ref b] below meth c s.heap [] 0 0 (lw_Z below #[Value.ref b] s) (entryFrame m ([Value.ref b] : List Value).toArray 4) := by
  obtain ⟨hx, hb, hr, hml, hown, hts, hX, hbl, hlk, hg⟩ := C0
  obtain ⟨dg, ar, hK⟩ := ks_K hts
  obtain ⟨ad, hKS⟩ := ks_start hts hg dg ar
  have hl := lv_entry (n := 4) [Value.ref b] (Nat.le_of_ble_eq_true rfl)
  rw [lg_entry_eq]
  refine start_walk (X := (p, l, e, room_1, s, m, #[Value.ref b], below, meth, c, lw_Z below #[Value.ref b] s, sA s, 4)) (g := (dg, ar, s.heap.size, ad)) (b := b) (L := L) (xs := xs) ⟨hx, hb, hml, hown, fun w h => hts w (kTb_lw h), hK _ _, fun q h => h, fun q h => h, hKS, hlk, rfl, Nat.le_refl _, rfl⟩ ⟨hX, hbl, sA_no b hbl⟩ hL hO ?_ rfl s.heap [] _ (fun k q h => by cases h) ⟨fun i j p q h => (by cases h), fun k q h => (by cases h)⟩ va_S.rf hl
  intro ws a b' pc lv h1 h2 d _ H locs ls hP hD hS hl
  exact va_forget hS.2.2 (W.widen h1 h2 (lw_ret hx hb hr hlk d))
