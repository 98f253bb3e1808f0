section KROWS2
variable {X : KX} {g : KG} {cc : ByteArray} {own : String} {rm : Room} {nn : Nat} {ρ : Type} {res : ρ} {ws : va_W} {a b pc : Nat} {lv : List (Nat × Value)} {st : List Value} {F F1 F2 : Option ρ}
def sT_0 : List Int32 := [1, 2, 4, 3, 5, 6, 7]
theorem r_gs_0 {index : Nat} (C : kC X g cc own rm nn) (hl' : Cond.fieldLink own index "MarkChains" "PAPER_SETS" "[I" ∈ kTb) (d : decode cc pc = .ok (.getstatic index, 3)) (kk : jJ X g res ws a b (pc + 3) lv (.ref (g.2.2.2 0) :: st) F) : jJ X g res ws a b pc lv st F := by
  obtain ⟨p, l, e, R, s, m, args, below, meth, c, Q, A, nL⟩ := X
  obtain ⟨hx, hb, hml, hown, hts, hK, hA, hAb, hKS, hlk, rfl, hbs, rfl⟩ := C
  intro hF H locs ls hP hD hS hl
  exact va_gets hx hb (hKS.2.2.2.2.1.1.narrow hAb) hS hown (hts _ hl') (fun _ h => h) d (kk hF H locs ls hP hD hS hl)
theorem r_sl_0 {i : Int32} (C : kC X g cc own rm nn) (d : decode cc pc = .ok (.iaload, 1)) (kk : jJ X g res ws a b (pc + 1) lv (.int (sT_0.getD i.toNatClampNeg 0) :: st) F) : jJ X g res ws a b pc lv (.int i :: .ref (g.2.2.2 0) :: st) (chk i 7 F) := by
  obtain ⟨p, l, e, R, s, m, args, below, meth, c, Q, A, nL⟩ := X
  obtain ⟨hx, hb, hml, hown, hts, hK, hA, hAb, hKS, hlk, rfl, hbs, rfl⟩ := C
  intro hF H locs ls hP hD hS hl
  obtain ⟨hi, hF⟩ := chk_in hF
  exact va_ti hx hb (hKS.2.2.2.2.1.2.narrow hAb) hS hi rfl d (kk hF H locs ls hP hD hS hl)
theorem r_sn_0 (C : kC X g cc own rm nn) (d : decode cc pc = .ok (.arraylength, 1)) (kk : jJ X g res ws a b (pc + 1) lv (.int 7 :: st) F) : jJ X g res ws a b pc lv (.ref (g.2.2.2 0) :: st) F := by
  obtain ⟨p, l, e, R, s, m, args, below, meth, c, Q, A, nL⟩ := X
  obtain ⟨hx, hb, hml, hown, hts, hK, hA, hAb, hKS, hlk, rfl, hbs, rfl⟩ := C
  intro hF H locs ls hP hD hS hl
  exact va_tlen hx hb (hKS.2.2.2.2.1.2.narrow hAb) hS (by decide) d (kk hF H locs ls hP hD hS hl)
def sT_1 : List Int32 := [18, 20, 23, 35, 40, 45, 50]
theorem r_gs_1 {index : Nat} (C : kC X g cc own rm nn) (hl' : Cond.fieldLink own index "MarkChains$Book" "AGES" "[I" ∈ kTb) (d : decode cc pc = .ok (.getstatic index, 3)) (kk : jJ X g res ws a b (pc + 3) lv (.ref (g.2.2.2 1) :: st) F) : jJ X g res ws a b pc lv st F := by
  obtain ⟨p, l, e, R, s, m, args, below, meth, c, Q, A, nL⟩ := X
  obtain ⟨hx, hb, hml, hown, hts, hK, hA, hAb, hKS, hlk, rfl, hbs, rfl⟩ := C
  intro hF H locs ls hP hD hS hl
  exact va_gets hx hb (hKS.2.2.2.2.2.1.1.narrow hAb) hS hown (hts _ hl') (fun _ h => h) d (kk hF H locs ls hP hD hS hl)
theorem r_sl_1 {i : Int32} (C : kC X g cc own rm nn) (d : decode cc pc = .ok (.iaload, 1)) (kk : jJ X g res ws a b (pc + 1) lv (.int (sT_1.getD i.toNatClampNeg 0) :: st) F) : jJ X g res ws a b pc lv (.int i :: .ref (g.2.2.2 1) :: st) (chk i 7 F) := by
  obtain ⟨p, l, e, R, s, m, args, below, meth, c, Q, A, nL⟩ := X
  obtain ⟨hx, hb, hml, hown, hts, hK, hA, hAb, hKS, hlk, rfl, hbs, rfl⟩ := C
  intro hF H locs ls hP hD hS hl
  obtain ⟨hi, hF⟩ := chk_in hF
  exact va_ti hx hb (hKS.2.2.2.2.2.1.2.narrow hAb) hS hi rfl d (kk hF H locs ls hP hD hS hl)
theorem r_sn_1 (C : kC X g cc own rm nn) (d : decode cc pc = .ok (.arraylength, 1)) (kk : jJ X g res ws a b (pc + 1) lv (.int 7 :: st) F) : jJ X g res ws a b pc lv (.ref (g.2.2.2 1) :: st) F := by
  obtain ⟨p, l, e, R, s, m, args, below, meth, c, Q, A, nL⟩ := X
  obtain ⟨hx, hb, hml, hown, hts, hK, hA, hAb, hKS, hlk, rfl, hbs, rfl⟩ := C
  intro hF H locs ls hP hD hS hl
  exact va_tlen hx hb (hKS.2.2.2.2.2.1.2.narrow hAb) hS (by decide) d (kk hF H locs ls hP hD hS hl)
def sT_2 : List Int32 := [0, -1, 0, 0, -30000, 0, 0, 0, 0, 0, 0, 1, -99, 0, 0]
theorem r_gs_2 {index : Nat} (C : kC X g cc own rm nn) (hl' : Cond.fieldLink own index "MarkChains$ItemReader" "LOWEST" "[I" ∈ kTb) (d : decode cc pc = .ok (.getstatic index, 3)) (kk : jJ X g res ws a b (pc + 3) lv (.ref (g.2.2.2 2) :: st) F) : jJ X g res ws a b pc lv st F := by
  obtain ⟨p, l, e, R, s, m, args, below, meth, c, Q, A, nL⟩ := X
  obtain ⟨hx, hb, hml, hown, hts, hK, hA, hAb, hKS, hlk, rfl, hbs, rfl⟩ := C
  intro hF H locs ls hP hD hS hl
  exact va_gets hx hb (hKS.2.2.2.2.2.2.1.1.narrow hAb) hS hown (hts _ hl') (fun _ h => h) d (kk hF H locs ls hP hD hS hl)
theorem r_sl_2 {i : Int32} (C : kC X g cc own rm nn) (d : decode cc pc = .ok (.iaload, 1)) (kk : jJ X g res ws a b (pc + 1) lv (.int (sT_2.getD i.toNatClampNeg 0) :: st) F) : jJ X g res ws a b pc lv (.int i :: .ref (g.2.2.2 2) :: st) (chk i 15 F) := by
  obtain ⟨p, l, e, R, s, m, args, below, meth, c, Q, A, nL⟩ := X
  obtain ⟨hx, hb, hml, hown, hts, hK, hA, hAb, hKS, hlk, rfl, hbs, rfl⟩ := C
  intro hF H locs ls hP hD hS hl
  obtain ⟨hi, hF⟩ := chk_in hF
  exact va_ti hx hb (hKS.2.2.2.2.2.2.1.2.narrow hAb) hS hi rfl d (kk hF H locs ls hP hD hS hl)
theorem r_sn_2 (C : kC X g cc own rm nn) (d : decode cc pc = .ok (.arraylength, 1)) (kk : jJ X g res ws a b (pc + 1) lv (.int 15 :: st) F) : jJ X g res ws a b pc lv (.ref (g.2.2.2 2) :: st) F := by
  obtain ⟨p, l, e, R, s, m, args, below, meth, c, Q, A, nL⟩ := X
  obtain ⟨hx, hb, hml, hown, hts, hK, hA, hAb, hKS, hlk, rfl, hbs, rfl⟩ := C
  intro hF H locs ls hP hD hS hl
  exact va_tlen hx hb (hKS.2.2.2.2.2.2.1.2.narrow hAb) hS (by decide) d (kk hF H locs ls hP hD hS hl)
def sT_3 : List Int32 := [1, 99, 5, 5000, 20000, 5, 6, 16, 8, 20000, 1439, 1000000, 99, 99, 63]
theorem r_gs_3 {index : Nat} (C : kC X g cc own rm nn) (hl' : Cond.fieldLink own index "MarkChains$ItemReader" "HIGHEST" "[I" ∈ kTb) (d : decode cc pc = .ok (.getstatic index, 3)) (kk : jJ X g res ws a b (pc + 3) lv (.ref (g.2.2.2 3) :: st) F) : jJ X g res ws a b pc lv st F := by
  obtain ⟨p, l, e, R, s, m, args, below, meth, c, Q, A, nL⟩ := X
  obtain ⟨hx, hb, hml, hown, hts, hK, hA, hAb, hKS, hlk, rfl, hbs, rfl⟩ := C
  intro hF H locs ls hP hD hS hl
  exact va_gets hx hb (hKS.2.2.2.2.2.2.2.1.1.narrow hAb) hS hown (hts _ hl') (fun _ h => h) d (kk hF H locs ls hP hD hS hl)
theorem r_sl_3 {i : Int32} (C : kC X g cc own rm nn) (d : decode cc pc = .ok (.iaload, 1)) (kk : jJ X g res ws a b (pc + 1) lv (.int (sT_3.getD i.toNatClampNeg 0) :: st) F) : jJ X g res ws a b pc lv (.int i :: .ref (g.2.2.2 3) :: st) (chk i 15 F) := by
  obtain ⟨p, l, e, R, s, m, args, below, meth, c, Q, A, nL⟩ := X
  obtain ⟨hx, hb, hml, hown, hts, hK, hA, hAb, hKS, hlk, rfl, hbs, rfl⟩ := C
  intro hF H locs ls hP hD hS hl
  obtain ⟨hi, hF⟩ := chk_in hF
  exact va_ti hx hb (hKS.2.2.2.2.2.2.2.1.2.narrow hAb) hS hi rfl d (kk hF H locs ls hP hD hS hl)
theorem r_sn_3 (C : kC X g cc own rm nn) (d : decode cc pc = .ok (.arraylength, 1)) (kk : jJ X g res ws a b (pc + 1) lv (.int 15 :: st) F) : jJ X g res ws a b pc lv (.ref (g.2.2.2 3) :: st) F := by
  obtain ⟨p, l, e, R, s, m, args, below, meth, c, Q, A, nL⟩ := X
  obtain ⟨hx, hb, hml, hown, hts, hK, hA, hAb, hKS, hlk, rfl, hbs, rfl⟩ := C
  intro hF H locs ls hP hD hS hl
  exact va_tlen hx hb (hKS.2.2.2.2.2.2.2.1.2.narrow hAb) hS (by decide) d (kk hF H locs ls hP hD hS hl)
def sT_4 : List Int32 := [1, 1, 1, 2, 3]
theorem r_gs_4 {index : Nat} (C : kC X g cc own rm nn) (hl' : Cond.fieldLink own index "MarkChains$Acts" "NUMBERS" "[I" ∈ kTb) (d : decode cc pc = .ok (.getstatic index, 3)) (kk : jJ X g res ws a b (pc + 3) lv (.ref (g.2.2.2 4) :: st) F) : jJ X g res ws a b pc lv st F := by
  obtain ⟨p, l, e, R, s, m, args, below, meth, c, Q, A, nL⟩ := X
  obtain ⟨hx, hb, hml, hown, hts, hK, hA, hAb, hKS, hlk, rfl, hbs, rfl⟩ := C
  intro hF H locs ls hP hD hS hl
  exact va_gets hx hb (hKS.2.2.2.2.2.2.2.2.1.1.narrow hAb) hS hown (hts _ hl') (fun _ h => h) d (kk hF H locs ls hP hD hS hl)
theorem r_sl_4 {i : Int32} (C : kC X g cc own rm nn) (d : decode cc pc = .ok (.iaload, 1)) (kk : jJ X g res ws a b (pc + 1) lv (.int (sT_4.getD i.toNatClampNeg 0) :: st) F) : jJ X g res ws a b pc lv (.int i :: .ref (g.2.2.2 4) :: st) (chk i 5 F) := by
  obtain ⟨p, l, e, R, s, m, args, below, meth, c, Q, A, nL⟩ := X
  obtain ⟨hx, hb, hml, hown, hts, hK, hA, hAb, hKS, hlk, rfl, hbs, rfl⟩ := C
  intro hF H locs ls hP hD hS hl
  obtain ⟨hi, hF⟩ := chk_in hF
  exact va_ti hx hb (hKS.2.2.2.2.2.2.2.2.1.2.narrow hAb) hS hi rfl d (kk hF H locs ls hP hD hS hl)
theorem r_sn_4 (C : kC X g cc own rm nn) (d : decode cc pc = .ok (.arraylength, 1)) (kk : jJ X g res ws a b (pc + 1) lv (.int 5 :: st) F) : jJ X g res ws a b pc lv (.ref (g.2.2.2 4) :: st) F := by
  obtain ⟨p, l, e, R, s, m, args, below, meth, c, Q, A, nL⟩ := X
  obtain ⟨hx, hb, hml, hown, hts, hK, hA, hAb, hKS, hlk, rfl, hbs, rfl⟩ := C
  intro hF H locs ls hP hD hS hl
  exact va_tlen hx hb (hKS.2.2.2.2.2.2.2.2.1.2.narrow hAb) hS (by decide) d (kk hF H locs ls hP hD hS hl)
theorem r_gs_cs {index : Nat} (C : kC X g cc own rm nn) (hl' : Cond.fieldLink own index "java/lang/String" "COMPACT_STRINGS" "Z" ∈ kTb) (d : decode cc pc = .ok (.getstatic index, 3)) (kk : jJ X g res ws a b (pc + 3) lv (.int 1 :: st) F) : jJ X g res ws a b pc lv st F := by
  obtain ⟨p, l, e, R, s, m, args, below, meth, c, Q, A, nL⟩ := X
  obtain ⟨hx, hb, hml, hown, hts, hK, hA, hAb, hKS, hlk, rfl, hbs, rfl⟩ := C
  intro hF H locs ls hP hD hS hl
  exact va_gets hx hb (hKS.2.2.2.2.2.2.2.2.2.1.narrow hAb) hS hown (hts _ hl') (fun _ h => h) d (kk hF H locs ls hP hD hS hl)
def sB_0 : List Int32 := [101, 112, 97, 109]
theorem r_str_0 (C : kC X g cc "MarkChains$ItemReader" rm nn) (d : decode cc pc = .ok (.ldc 29, 2)) (kk : jJ X g res ws a b (pc + 2) lv (.ref (g.2.2.2 5) :: st) F) : jJ X g res ws a b pc lv st F := by
  obtain ⟨p, l, e, R, s, m, args, below, meth, c, Q, A, nL⟩ := X
  obtain ⟨hx, hb, hml, hown, hts, hK, hA, hAb, hKS, hlk, rfl, hbs, rfl⟩ := C
  intro hF H locs ls hP hD hS hl
  exact va_ldcS hx hb hown hKS.2.2.2.2.2.2.2.2.2.2.1 d (kk hF H locs ls hP hD hS hl)
theorem r_sv_0 {index : Nat} (C : kC X g cc own rm nn) (hl' : Cond.fieldLink own index "java/lang/String" "value" "[B" ∈ kTb) (d : decode cc pc = .ok (.getfield index, 3)) (kk : jJ X g res ws a b (pc + 3) lv (.ref (g.2.2.2 8) :: st) F) : jJ X g res ws a b pc lv (.ref (g.2.2.2 5) :: st) F := by
  obtain ⟨p, l, e, R, s, m, args, below, meth, c, Q, A, nL⟩ := X
  obtain ⟨hx, hb, hml, hown, hts, hK, hA, hAb, hKS, hlk, rfl, hbs, rfl⟩ := C
  intro hF H locs ls hP hD hS hl
  exact vk_getf hx hb ((hKS.2.2.2.2.2.2.2.2.2.2.2.2.2.narrow hAb).1 0 (by decide)).2.2.1 hS hown (hts _ hl') (fun _ h => h) d (kk hF H locs ls hP hD hS hl)
theorem r_sc_0 {index : Nat} (C : kC X g cc own rm nn) (hl' : Cond.fieldLink own index "java/lang/String" "coder" "B" ∈ kTb) (d : decode cc pc = .ok (.getfield index, 3)) (kk : jJ X g res ws a b (pc + 3) lv (.int 0 :: st) F) : jJ X g res ws a b pc lv (.ref (g.2.2.2 5) :: st) F := by
  obtain ⟨p, l, e, R, s, m, args, below, meth, c, Q, A, nL⟩ := X
  obtain ⟨hx, hb, hml, hown, hts, hK, hA, hAb, hKS, hlk, rfl, hbs, rfl⟩ := C
  intro hF H locs ls hP hD hS hl
  exact vk_getf hx hb ((hKS.2.2.2.2.2.2.2.2.2.2.2.2.2.narrow hAb).1 0 (by decide)).2.1 hS hown (hts _ hl') (fun _ h => h) d (kk hF H locs ls hP hD hS hl)
theorem r_sbl_0 {i : Int32} (C : kC X g cc own rm nn) (d : decode cc pc = .ok (.baload, 1)) (kk : jJ X g res ws a b (pc + 1) lv (.int (sB_0.getD i.toNatClampNeg 0) :: st) F) : jJ X g res ws a b pc lv (.int i :: .ref (g.2.2.2 8) :: st) (chk i 4 F) := by
  obtain ⟨p, l, e, R, s, m, args, below, meth, c, Q, A, nL⟩ := X
  obtain ⟨hx, hb, hml, hown, hts, hK, hA, hAb, hKS, hlk, rfl, hbs, rfl⟩ := C
  intro hF H locs ls hP hD hS hl
  obtain ⟨hi, hF⟩ := chk_in hF
  exact va_tb hx hb ((hKS.2.2.2.2.2.2.2.2.2.2.2.2.2.narrow hAb).1 0 (by decide)).2.2.2 hS hi rfl d (kk hF H locs ls hP hD hS hl)
theorem r_sbn_0 (C : kC X g cc own rm nn) (d : decode cc pc = .ok (.arraylength, 1)) (kk : jJ X g res ws a b (pc + 1) lv (.int 4 :: st) F) : jJ X g res ws a b pc lv (.ref (g.2.2.2 8) :: st) F := by
  obtain ⟨p, l, e, R, s, m, args, below, meth, c, Q, A, nL⟩ := X
  obtain ⟨hx, hb, hml, hown, hts, hK, hA, hAb, hKS, hlk, rfl, hbs, rfl⟩ := C
  intro hF H locs ls hP hD hS hl
  exact va_tlen hx hb ((hKS.2.2.2.2.2.2.2.2.2.2.2.2.2.narrow hAb).1 0 (by decide)).2.2.2 hS (by decide) d (kk hF H locs ls hP hD hS hl)
theorem r_cT0pi {fN : Option Int32} {G : Int32 → Option ρ} {y : MethodName} {bytes : ByteArray} {maxL n index : Nat} {ret : Option FieldType} {rm' : Room} {As st0 : List Value} (C : kC X g cc own rm nn) (hM : ∀ r, fN = some r → ∀ l, kM l y bytes maxL ret rm' g (.ref (g.2.2.2 5) :: As) ws ws (some (.int r)) 0 0) (hy : kY y bytes maxL ret n) (hi : Cond.instanceMethod y ∈ kTb) (hs : Cond.selects y.cls y y ∈ kTb) (hcl : y.cls = "java/lang/String") (h1 : Cond.methodLink own index y ∈ kTb) (hn : As.length = n) (hR : rm'.frames + 1 ≤ rm.frames ∧ 8 + (maxL + 11) + rm'.locals ≤ rm.locals) (hrc : rm'.cells = 0) (hrs : rm'.slots = 0) (hcs : a ≤ rm.cells ∧ b ≤ rm.slots) (hst : st0 = As.reverse ++ .ref (g.2.2.2 5) :: st) (hcat : (st.map fun v => v.category).sum ≤ 8) (d : decode cc pc = .ok (.invokevirtual index, 3)) (kk : ∀ r, jJ X g res ws a b (pc + 3) lv (.int r :: st) (G r)) : jJ X g res ws a b pc lv st0 (bp fN G) := by
  obtain ⟨p, l, e, R, s, m, args, below, meth, c, Q, A, nL⟩ := X
  obtain ⟨hx, hb, hml, hown, hts, hK, hA, hAb, hKS, hlk, rfl, hbs, rfl⟩ := C
  intro hF H locs ls hP hD hS hl
  obtain ⟨r, hr, hF⟩ : ∃ r, fN = some r ∧ G r = some res := by
    cases hfN : fN with
    | none => rw [hfN] at hF; cases hF
    | some r => rw [hfN] at hF; exact ⟨r, rfl, hF⟩
  have hFr := kFree hA hD hS
  obtain ⟨y1, y2, y3⟩ := hy
  subst hst
  refine k_ret (va_runV (As := As) (rest := st) ⟨hx, hb, hml, hown, hts⟩ (hM r hr l H.size) (cwV n hts (fun w hw => ?_) rfl hrc hrs ⟨rfl, y3⟩ hR) ⟨kPre_blind, by rw [hcl]; exact vk_recv (hKS.2.2.2.2.2.2.2.2.2.2.2.2.2.narrow hAb) (i := 0) (by decide) hS, fun U hU hW => ⟨rfl, kPre_of hK hAb hKS hbs hP hD hS hU hW⟩⟩ rfl hn hl.1 rfl (lv_room hcat) d hcs) hS hFr (fun H1 locs1 hP1 hD1 hS1 _ => kk r hF H1 locs1 ls hP1 (hD1.weaken (fun _ q _ h => hFr q.1 h)) hS1 hl)
  rcases List.mem_append.mp hw with h | h
  · rcases List.mem_cons.mp h with rfl | h
    · exact kTb_good _ h1
    · rcases List.mem_cons.mp h with rfl | h
      · exact kTb_good _ hi
      · rcases List.mem_cons.mp h with rfl | h
        · exact kTb_good _ hs
        · rcases List.mem_cons.mp h with rfl | h
          · exact kTb_good _ y1
          · exact absurd h List.not_mem_nil
  · rcases List.mem_cons.mp h with rfl | h
    · exact kTb_good _ y2
    · exact kTb_good _ h
theorem r_cT0pz {fN : Option Bool} {G : Bool → Option ρ} {y : MethodName} {bytes : ByteArray} {maxL n index : Nat} {ret : Option FieldType} {rm' : Room} {As st0 : List Value} (C : kC X g cc own rm nn) (hM : ∀ r, fN = some r → ∀ l, kM l y bytes maxL ret rm' g (.ref (g.2.2.2 5) :: As) ws ws (some (.int (b2 r))) 0 0) (hy : kY y bytes maxL ret n) (hi : Cond.instanceMethod y ∈ kTb) (hs : Cond.selects y.cls y y ∈ kTb) (hcl : y.cls = "java/lang/String") (h1 : Cond.methodLink own index y ∈ kTb) (hn : As.length = n) (hR : rm'.frames + 1 ≤ rm.frames ∧ 8 + (maxL + 11) + rm'.locals ≤ rm.locals) (hrc : rm'.cells = 0) (hrs : rm'.slots = 0) (hcs : a ≤ rm.cells ∧ b ≤ rm.slots) (hst : st0 = As.reverse ++ .ref (g.2.2.2 5) :: st) (hcat : (st.map fun v => v.category).sum ≤ 8) (d : decode cc pc = .ok (.invokevirtual index, 3)) (kk : ∀ r, jJ X g res ws a b (pc + 3) lv (.int (b2 r) :: st) (G r)) : jJ X g res ws a b pc lv st0 (bp fN G) := by
  obtain ⟨p, l, e, R, s, m, args, below, meth, c, Q, A, nL⟩ := X
  obtain ⟨hx, hb, hml, hown, hts, hK, hA, hAb, hKS, hlk, rfl, hbs, rfl⟩ := C
  intro hF H locs ls hP hD hS hl
  obtain ⟨r, hr, hF⟩ : ∃ r, fN = some r ∧ G r = some res := by
    cases hfN : fN with
    | none => rw [hfN] at hF; cases hF
    | some r => rw [hfN] at hF; exact ⟨r, rfl, hF⟩
  have hFr := kFree hA hD hS
  obtain ⟨y1, y2, y3⟩ := hy
  subst hst
  refine k_ret (va_runV (As := As) (rest := st) ⟨hx, hb, hml, hown, hts⟩ (hM r hr l H.size) (cwV n hts (fun w hw => ?_) rfl hrc hrs ⟨rfl, y3⟩ hR) ⟨kPre_blind, by rw [hcl]; exact vk_recv (hKS.2.2.2.2.2.2.2.2.2.2.2.2.2.narrow hAb) (i := 0) (by decide) hS, fun U hU hW => ⟨rfl, kPre_of hK hAb hKS hbs hP hD hS hU hW⟩⟩ rfl hn hl.1 rfl (lv_room hcat) d hcs) hS hFr (fun H1 locs1 hP1 hD1 hS1 _ => kk r hF H1 locs1 ls hP1 (hD1.weaken (fun _ q _ h => hFr q.1 h)) hS1 hl)
  rcases List.mem_append.mp hw with h | h
  · rcases List.mem_cons.mp h with rfl | h
    · exact kTb_good _ h1
    · rcases List.mem_cons.mp h with rfl | h
      · exact kTb_good _ hi
      · rcases List.mem_cons.mp h with rfl | h
        · exact kTb_good _ hs
        · rcases List.mem_cons.mp h with rfl | h
          · exact kTb_good _ y1
          · exact absurd h List.not_mem_nil
  · rcases List.mem_cons.mp h with rfl | h
    · exact kTb_good _ y2
    · exact kTb_good _ h
def sB_1 : List Int32 := [118, 119, 115, 104, 103, 101, 100, 109, 108, 98, 120, 121, 122]
theorem r_str_1 (C : kC X g cc "MarkChains$FormulaReader" rm nn) (d : decode cc pc = .ok (.ldc 121, 2)) (kk : jJ X g res ws a b (pc + 2) lv (.ref (g.2.2.2 6) :: st) F) : jJ X g res ws a b pc lv st F := by
  obtain ⟨p, l, e, R, s, m, args, below, meth, c, Q, A, nL⟩ := X
  obtain ⟨hx, hb, hml, hown, hts, hK, hA, hAb, hKS, hlk, rfl, hbs, rfl⟩ := C
  intro hF H locs ls hP hD hS hl
  exact va_ldcS hx hb hown hKS.2.2.2.2.2.2.2.2.2.2.2.1 d (kk hF H locs ls hP hD hS hl)
theorem r_sv_1 {index : Nat} (C : kC X g cc own rm nn) (hl' : Cond.fieldLink own index "java/lang/String" "value" "[B" ∈ kTb) (d : decode cc pc = .ok (.getfield index, 3)) (kk : jJ X g res ws a b (pc + 3) lv (.ref (g.2.2.2 9) :: st) F) : jJ X g res ws a b pc lv (.ref (g.2.2.2 6) :: st) F := by
  obtain ⟨p, l, e, R, s, m, args, below, meth, c, Q, A, nL⟩ := X
  obtain ⟨hx, hb, hml, hown, hts, hK, hA, hAb, hKS, hlk, rfl, hbs, rfl⟩ := C
  intro hF H locs ls hP hD hS hl
  exact vk_getf hx hb ((hKS.2.2.2.2.2.2.2.2.2.2.2.2.2.narrow hAb).1 1 (by decide)).2.2.1 hS hown (hts _ hl') (fun _ h => h) d (kk hF H locs ls hP hD hS hl)
theorem r_sc_1 {index : Nat} (C : kC X g cc own rm nn) (hl' : Cond.fieldLink own index "java/lang/String" "coder" "B" ∈ kTb) (d : decode cc pc = .ok (.getfield index, 3)) (kk : jJ X g res ws a b (pc + 3) lv (.int 0 :: st) F) : jJ X g res ws a b pc lv (.ref (g.2.2.2 6) :: st) F := by
  obtain ⟨p, l, e, R, s, m, args, below, meth, c, Q, A, nL⟩ := X
  obtain ⟨hx, hb, hml, hown, hts, hK, hA, hAb, hKS, hlk, rfl, hbs, rfl⟩ := C
  intro hF H locs ls hP hD hS hl
  exact vk_getf hx hb ((hKS.2.2.2.2.2.2.2.2.2.2.2.2.2.narrow hAb).1 1 (by decide)).2.1 hS hown (hts _ hl') (fun _ h => h) d (kk hF H locs ls hP hD hS hl)
theorem r_sbl_1 {i : Int32} (C : kC X g cc own rm nn) (d : decode cc pc = .ok (.baload, 1)) (kk : jJ X g res ws a b (pc + 1) lv (.int (sB_1.getD i.toNatClampNeg 0) :: st) F) : jJ X g res ws a b pc lv (.int i :: .ref (g.2.2.2 9) :: st) (chk i 13 F) := by
  obtain ⟨p, l, e, R, s, m, args, below, meth, c, Q, A, nL⟩ := X
  obtain ⟨hx, hb, hml, hown, hts, hK, hA, hAb, hKS, hlk, rfl, hbs, rfl⟩ := C
  intro hF H locs ls hP hD hS hl
  obtain ⟨hi, hF⟩ := chk_in hF
  exact va_tb hx hb ((hKS.2.2.2.2.2.2.2.2.2.2.2.2.2.narrow hAb).1 1 (by decide)).2.2.2 hS hi rfl d (kk hF H locs ls hP hD hS hl)
theorem r_sbn_1 (C : kC X g cc own rm nn) (d : decode cc pc = .ok (.arraylength, 1)) (kk : jJ X g res ws a b (pc + 1) lv (.int 13 :: st) F) : jJ X g res ws a b pc lv (.ref (g.2.2.2 9) :: st) F := by
  obtain ⟨p, l, e, R, s, m, args, below, meth, c, Q, A, nL⟩ := X
  obtain ⟨hx, hb, hml, hown, hts, hK, hA, hAb, hKS, hlk, rfl, hbs, rfl⟩ := C
  intro hF H locs ls hP hD hS hl
  exact va_tlen hx hb ((hKS.2.2.2.2.2.2.2.2.2.2.2.2.2.narrow hAb).1 1 (by decide)).2.2.2 hS (by decide) d (kk hF H locs ls hP hD hS hl)
theorem r_cT1pi {fN : Option Int32} {G : Int32 → Option ρ} {y : MethodName} {bytes : ByteArray} {maxL n index : Nat} {ret : Option FieldType} {rm' : Room} {As st0 : List Value} (C : kC X g cc own rm nn) (hM : ∀ r, fN = some r → ∀ l, kM l y bytes maxL ret rm' g (.ref (g.2.2.2 6) :: As) ws ws (some (.int r)) 0 0) (hy : kY y bytes maxL ret n) (hi : Cond.instanceMethod y ∈ kTb) (hs : Cond.selects y.cls y y ∈ kTb) (hcl : y.cls = "java/lang/String") (h1 : Cond.methodLink own index y ∈ kTb) (hn : As.length = n) (hR : rm'.frames + 1 ≤ rm.frames ∧ 8 + (maxL + 11) + rm'.locals ≤ rm.locals) (hrc : rm'.cells = 0) (hrs : rm'.slots = 0) (hcs : a ≤ rm.cells ∧ b ≤ rm.slots) (hst : st0 = As.reverse ++ .ref (g.2.2.2 6) :: st) (hcat : (st.map fun v => v.category).sum ≤ 8) (d : decode cc pc = .ok (.invokevirtual index, 3)) (kk : ∀ r, jJ X g res ws a b (pc + 3) lv (.int r :: st) (G r)) : jJ X g res ws a b pc lv st0 (bp fN G) := by
  obtain ⟨p, l, e, R, s, m, args, below, meth, c, Q, A, nL⟩ := X
  obtain ⟨hx, hb, hml, hown, hts, hK, hA, hAb, hKS, hlk, rfl, hbs, rfl⟩ := C
  intro hF H locs ls hP hD hS hl
  obtain ⟨r, hr, hF⟩ : ∃ r, fN = some r ∧ G r = some res := by
    cases hfN : fN with
    | none => rw [hfN] at hF; cases hF
    | some r => rw [hfN] at hF; exact ⟨r, rfl, hF⟩
  have hFr := kFree hA hD hS
  obtain ⟨y1, y2, y3⟩ := hy
  subst hst
  refine k_ret (va_runV (As := As) (rest := st) ⟨hx, hb, hml, hown, hts⟩ (hM r hr l H.size) (cwV n hts (fun w hw => ?_) rfl hrc hrs ⟨rfl, y3⟩ hR) ⟨kPre_blind, by rw [hcl]; exact vk_recv (hKS.2.2.2.2.2.2.2.2.2.2.2.2.2.narrow hAb) (i := 1) (by decide) hS, fun U hU hW => ⟨rfl, kPre_of hK hAb hKS hbs hP hD hS hU hW⟩⟩ rfl hn hl.1 rfl (lv_room hcat) d hcs) hS hFr (fun H1 locs1 hP1 hD1 hS1 _ => kk r hF H1 locs1 ls hP1 (hD1.weaken (fun _ q _ h => hFr q.1 h)) hS1 hl)
  rcases List.mem_append.mp hw with h | h
  · rcases List.mem_cons.mp h with rfl | h
    · exact kTb_good _ h1
    · rcases List.mem_cons.mp h with rfl | h
      · exact kTb_good _ hi
      · rcases List.mem_cons.mp h with rfl | h
        · exact kTb_good _ hs
        · rcases List.mem_cons.mp h with rfl | h
          · exact kTb_good _ y1
          · exact absurd h List.not_mem_nil
  · rcases List.mem_cons.mp h with rfl | h
    · exact kTb_good _ y2
    · exact kTb_good _ h
theorem r_cT1pz {fN : Option Bool} {G : Bool → Option ρ} {y : MethodName} {bytes : ByteArray} {maxL n index : Nat} {ret : Option FieldType} {rm' : Room} {As st0 : List Value} (C : kC X g cc own rm nn) (hM : ∀ r, fN = some r → ∀ l, kM l y bytes maxL ret rm' g (.ref (g.2.2.2 6) :: As) ws ws (some (.int (b2 r))) 0 0) (hy : kY y bytes maxL ret n) (hi : Cond.instanceMethod y ∈ kTb) (hs : Cond.selects y.cls y y ∈ kTb) (hcl : y.cls = "java/lang/String") (h1 : Cond.methodLink own index y ∈ kTb) (hn : As.length = n) (hR : rm'.frames + 1 ≤ rm.frames ∧ 8 + (maxL + 11) + rm'.locals ≤ rm.locals) (hrc : rm'.cells = 0) (hrs : rm'.slots = 0) (hcs : a ≤ rm.cells ∧ b ≤ rm.slots) (hst : st0 = As.reverse ++ .ref (g.2.2.2 6) :: st) (hcat : (st.map fun v => v.category).sum ≤ 8) (d : decode cc pc = .ok (.invokevirtual index, 3)) (kk : ∀ r, jJ X g res ws a b (pc + 3) lv (.int (b2 r) :: st) (G r)) : jJ X g res ws a b pc lv st0 (bp fN G) := by
  obtain ⟨p, l, e, R, s, m, args, below, meth, c, Q, A, nL⟩ := X
  obtain ⟨hx, hb, hml, hown, hts, hK, hA, hAb, hKS, hlk, rfl, hbs, rfl⟩ := C
  intro hF H locs ls hP hD hS hl
  obtain ⟨r, hr, hF⟩ : ∃ r, fN = some r ∧ G r = some res := by
    cases hfN : fN with
    | none => rw [hfN] at hF; cases hF
    | some r => rw [hfN] at hF; exact ⟨r, rfl, hF⟩
  have hFr := kFree hA hD hS
  obtain ⟨y1, y2, y3⟩ := hy
  subst hst
  refine k_ret (va_runV (As := As) (rest := st) ⟨hx, hb, hml, hown, hts⟩ (hM r hr l H.size) (cwV n hts (fun w hw => ?_) rfl hrc hrs ⟨rfl, y3⟩ hR) ⟨kPre_blind, by rw [hcl]; exact vk_recv (hKS.2.2.2.2.2.2.2.2.2.2.2.2.2.narrow hAb) (i := 1) (by decide) hS, fun U hU hW => ⟨rfl, kPre_of hK hAb hKS hbs hP hD hS hU hW⟩⟩ rfl hn hl.1 rfl (lv_room hcat) d hcs) hS hFr (fun H1 locs1 hP1 hD1 hS1 _ => kk r hF H1 locs1 ls hP1 (hD1.weaken (fun _ q _ h => hFr q.1 h)) hS1 hl)
  rcases List.mem_append.mp hw with h | h
  · rcases List.mem_cons.mp h with rfl | h
    · exact kTb_good _ h1
    · rcases List.mem_cons.mp h with rfl | h
      · exact kTb_good _ hi
      · rcases List.mem_cons.mp h with rfl | h
        · exact kTb_good _ hs
        · rcases List.mem_cons.mp h with rfl | h
          · exact kTb_good _ y1
          · exact absurd h List.not_mem_nil
  · rcases List.mem_cons.mp h with rfl | h
    · exact kTb_good _ y2
    · exact kTb_good _ h
def sB_2 : List Int32 := [114, 115, 100, 112, 98]
theorem r_str_2 (C : kC X g cc "MarkChains$Acts" rm nn) (d : decode cc pc = .ok (.ldc 38, 2)) (kk : jJ X g res ws a b (pc + 2) lv (.ref (g.2.2.2 7) :: st) F) : jJ X g res ws a b pc lv st F := by
  obtain ⟨p, l, e, R, s, m, args, below, meth, c, Q, A, nL⟩ := X
  obtain ⟨hx, hb, hml, hown, hts, hK, hA, hAb, hKS, hlk, rfl, hbs, rfl⟩ := C
  intro hF H locs ls hP hD hS hl
  exact va_ldcS hx hb hown hKS.2.2.2.2.2.2.2.2.2.2.2.2.1 d (kk hF H locs ls hP hD hS hl)
theorem r_sv_2 {index : Nat} (C : kC X g cc own rm nn) (hl' : Cond.fieldLink own index "java/lang/String" "value" "[B" ∈ kTb) (d : decode cc pc = .ok (.getfield index, 3)) (kk : jJ X g res ws a b (pc + 3) lv (.ref (g.2.2.2 10) :: st) F) : jJ X g res ws a b pc lv (.ref (g.2.2.2 7) :: st) F := by
  obtain ⟨p, l, e, R, s, m, args, below, meth, c, Q, A, nL⟩ := X
  obtain ⟨hx, hb, hml, hown, hts, hK, hA, hAb, hKS, hlk, rfl, hbs, rfl⟩ := C
  intro hF H locs ls hP hD hS hl
  exact vk_getf hx hb ((hKS.2.2.2.2.2.2.2.2.2.2.2.2.2.narrow hAb).1 2 (by decide)).2.2.1 hS hown (hts _ hl') (fun _ h => h) d (kk hF H locs ls hP hD hS hl)
theorem r_sc_2 {index : Nat} (C : kC X g cc own rm nn) (hl' : Cond.fieldLink own index "java/lang/String" "coder" "B" ∈ kTb) (d : decode cc pc = .ok (.getfield index, 3)) (kk : jJ X g res ws a b (pc + 3) lv (.int 0 :: st) F) : jJ X g res ws a b pc lv (.ref (g.2.2.2 7) :: st) F := by
  obtain ⟨p, l, e, R, s, m, args, below, meth, c, Q, A, nL⟩ := X
  obtain ⟨hx, hb, hml, hown, hts, hK, hA, hAb, hKS, hlk, rfl, hbs, rfl⟩ := C
  intro hF H locs ls hP hD hS hl
  exact vk_getf hx hb ((hKS.2.2.2.2.2.2.2.2.2.2.2.2.2.narrow hAb).1 2 (by decide)).2.1 hS hown (hts _ hl') (fun _ h => h) d (kk hF H locs ls hP hD hS hl)
theorem r_sbl_2 {i : Int32} (C : kC X g cc own rm nn) (d : decode cc pc = .ok (.baload, 1)) (kk : jJ X g res ws a b (pc + 1) lv (.int (sB_2.getD i.toNatClampNeg 0) :: st) F) : jJ X g res ws a b pc lv (.int i :: .ref (g.2.2.2 10) :: st) (chk i 5 F) := by
  obtain ⟨p, l, e, R, s, m, args, below, meth, c, Q, A, nL⟩ := X
  obtain ⟨hx, hb, hml, hown, hts, hK, hA, hAb, hKS, hlk, rfl, hbs, rfl⟩ := C
  intro hF H locs ls hP hD hS hl
  obtain ⟨hi, hF⟩ := chk_in hF
  exact va_tb hx hb ((hKS.2.2.2.2.2.2.2.2.2.2.2.2.2.narrow hAb).1 2 (by decide)).2.2.2 hS hi rfl d (kk hF H locs ls hP hD hS hl)
theorem r_sbn_2 (C : kC X g cc own rm nn) (d : decode cc pc = .ok (.arraylength, 1)) (kk : jJ X g res ws a b (pc + 1) lv (.int 5 :: st) F) : jJ X g res ws a b pc lv (.ref (g.2.2.2 10) :: st) F := by
  obtain ⟨p, l, e, R, s, m, args, below, meth, c, Q, A, nL⟩ := X
  obtain ⟨hx, hb, hml, hown, hts, hK, hA, hAb, hKS, hlk, rfl, hbs, rfl⟩ := C
  intro hF H locs ls hP hD hS hl
  exact va_tlen hx hb ((hKS.2.2.2.2.2.2.2.2.2.2.2.2.2.narrow hAb).1 2 (by decide)).2.2.2 hS (by decide) d (kk hF H locs ls hP hD hS hl)
theorem r_cT2pi {fN : Option Int32} {G : Int32 → Option ρ} {y : MethodName} {bytes : ByteArray} {maxL n index : Nat} {ret : Option FieldType} {rm' : Room} {As st0 : List Value} (C : kC X g cc own rm nn) (hM : ∀ r, fN = some r → ∀ l, kM l y bytes maxL ret rm' g (.ref (g.2.2.2 7) :: As) ws ws (some (.int r)) 0 0) (hy : kY y bytes maxL ret n) (hi : Cond.instanceMethod y ∈ kTb) (hs : Cond.selects y.cls y y ∈ kTb) (hcl : y.cls = "java/lang/String") (h1 : Cond.methodLink own index y ∈ kTb) (hn : As.length = n) (hR : rm'.frames + 1 ≤ rm.frames ∧ 8 + (maxL + 11) + rm'.locals ≤ rm.locals) (hrc : rm'.cells = 0) (hrs : rm'.slots = 0) (hcs : a ≤ rm.cells ∧ b ≤ rm.slots) (hst : st0 = As.reverse ++ .ref (g.2.2.2 7) :: st) (hcat : (st.map fun v => v.category).sum ≤ 8) (d : decode cc pc = .ok (.invokevirtual index, 3)) (kk : ∀ r, jJ X g res ws a b (pc + 3) lv (.int r :: st) (G r)) : jJ X g res ws a b pc lv st0 (bp fN G) := by
  obtain ⟨p, l, e, R, s, m, args, below, meth, c, Q, A, nL⟩ := X
  obtain ⟨hx, hb, hml, hown, hts, hK, hA, hAb, hKS, hlk, rfl, hbs, rfl⟩ := C
  intro hF H locs ls hP hD hS hl
  obtain ⟨r, hr, hF⟩ : ∃ r, fN = some r ∧ G r = some res := by
    cases hfN : fN with
    | none => rw [hfN] at hF; cases hF
    | some r => rw [hfN] at hF; exact ⟨r, rfl, hF⟩
  have hFr := kFree hA hD hS
  obtain ⟨y1, y2, y3⟩ := hy
  subst hst
  refine k_ret (va_runV (As := As) (rest := st) ⟨hx, hb, hml, hown, hts⟩ (hM r hr l H.size) (cwV n hts (fun w hw => ?_) rfl hrc hrs ⟨rfl, y3⟩ hR) ⟨kPre_blind, by rw [hcl]; exact vk_recv (hKS.2.2.2.2.2.2.2.2.2.2.2.2.2.narrow hAb) (i := 2) (by decide) hS, fun U hU hW => ⟨rfl, kPre_of hK hAb hKS hbs hP hD hS hU hW⟩⟩ rfl hn hl.1 rfl (lv_room hcat) d hcs) hS hFr (fun H1 locs1 hP1 hD1 hS1 _ => kk r hF H1 locs1 ls hP1 (hD1.weaken (fun _ q _ h => hFr q.1 h)) hS1 hl)
  rcases List.mem_append.mp hw with h | h
  · rcases List.mem_cons.mp h with rfl | h
    · exact kTb_good _ h1
    · rcases List.mem_cons.mp h with rfl | h
      · exact kTb_good _ hi
      · rcases List.mem_cons.mp h with rfl | h
        · exact kTb_good _ hs
        · rcases List.mem_cons.mp h with rfl | h
          · exact kTb_good _ y1
          · exact absurd h List.not_mem_nil
  · rcases List.mem_cons.mp h with rfl | h
    · exact kTb_good _ y2
    · exact kTb_good _ h
theorem r_cT2pz {fN : Option Bool} {G : Bool → Option ρ} {y : MethodName} {bytes : ByteArray} {maxL n index : Nat} {ret : Option FieldType} {rm' : Room} {As st0 : List Value} (C : kC X g cc own rm nn) (hM : ∀ r, fN = some r → ∀ l, kM l y bytes maxL ret rm' g (.ref (g.2.2.2 7) :: As) ws ws (some (.int (b2 r))) 0 0) (hy : kY y bytes maxL ret n) (hi : Cond.instanceMethod y ∈ kTb) (hs : Cond.selects y.cls y y ∈ kTb) (hcl : y.cls = "java/lang/String") (h1 : Cond.methodLink own index y ∈ kTb) (hn : As.length = n) (hR : rm'.frames + 1 ≤ rm.frames ∧ 8 + (maxL + 11) + rm'.locals ≤ rm.locals) (hrc : rm'.cells = 0) (hrs : rm'.slots = 0) (hcs : a ≤ rm.cells ∧ b ≤ rm.slots) (hst : st0 = As.reverse ++ .ref (g.2.2.2 7) :: st) (hcat : (st.map fun v => v.category).sum ≤ 8) (d : decode cc pc = .ok (.invokevirtual index, 3)) (kk : ∀ r, jJ X g res ws a b (pc + 3) lv (.int (b2 r) :: st) (G r)) : jJ X g res ws a b pc lv st0 (bp fN G) := by
  obtain ⟨p, l, e, R, s, m, args, below, meth, c, Q, A, nL⟩ := X
  obtain ⟨hx, hb, hml, hown, hts, hK, hA, hAb, hKS, hlk, rfl, hbs, rfl⟩ := C
  intro hF H locs ls hP hD hS hl
  obtain ⟨r, hr, hF⟩ : ∃ r, fN = some r ∧ G r = some res := by
    cases hfN : fN with
    | none => rw [hfN] at hF; cases hF
    | some r => rw [hfN] at hF; exact ⟨r, rfl, hF⟩
  have hFr := kFree hA hD hS
  obtain ⟨y1, y2, y3⟩ := hy
  subst hst
  refine k_ret (va_runV (As := As) (rest := st) ⟨hx, hb, hml, hown, hts⟩ (hM r hr l H.size) (cwV n hts (fun w hw => ?_) rfl hrc hrs ⟨rfl, y3⟩ hR) ⟨kPre_blind, by rw [hcl]; exact vk_recv (hKS.2.2.2.2.2.2.2.2.2.2.2.2.2.narrow hAb) (i := 2) (by decide) hS, fun U hU hW => ⟨rfl, kPre_of hK hAb hKS hbs hP hD hS hU hW⟩⟩ rfl hn hl.1 rfl (lv_room hcat) d hcs) hS hFr (fun H1 locs1 hP1 hD1 hS1 _ => kk r hF H1 locs1 ls hP1 (hD1.weaken (fun _ q _ h => hFr q.1 h)) hS1 hl)
  rcases List.mem_append.mp hw with h | h
  · rcases List.mem_cons.mp h with rfl | h
    · exact kTb_good _ h1
    · rcases List.mem_cons.mp h with rfl | h
      · exact kTb_good _ hi
      · rcases List.mem_cons.mp h with rfl | h
        · exact kTb_good _ hs
        · rcases List.mem_cons.mp h with rfl | h
          · exact kTb_good _ y1
          · exact absurd h List.not_mem_nil
  · rcases List.mem_cons.mp h with rfl | h
    · exact kTb_good _ y2
    · exact kTb_good _ h
theorem r_ifnullR {x : Nat} {off : Int} (C : kC X g cc own rm nn) (d : decode cc pc = .ok (.ifnull off, 3)) (kk : jJ X g res ws a b (pc + 3) lv st F) : jJ X g res ws a b pc lv (.ref x :: st) F := by
  obtain ⟨p, l, e, R, s, m, args, below, meth, c, Q, A, nL⟩ := X
  obtain ⟨hx, hb, hml, hown, hts, hK, hA, hAb, hKS, hlk, rfl, hbs, rfl⟩ := C
  intro hF H locs ls hP hD hS hl
  exact lv_ifnull hx hb d (kk hF H locs ls hP hD hS hl)
theorem r_ifnullN {off : Int} (tgt : Nat) (C : kC X g cc own rm nn) (d : decode cc pc = .ok (.ifnull off, 3)) (ht : (pc : Int) + off = (tgt : Int)) (kk : jJ X g res ws a b tgt lv st F) : jJ X g res ws a b pc lv (.null :: st) F := by
  obtain ⟨p, l, e, R, s, m, args, below, meth, c, Q, A, nL⟩ := X
  obtain ⟨hx, hb, hml, hown, hts, hK, hA, hAb, hKS, hlk, rfl, hbs, rfl⟩ := C
  intro hF H locs ls hP hD hS hl
  exact lv_ifnullN hx hb d ht (kk hF H locs ls hP hD hS hl)
theorem r_ifnonnullR {x : Nat} {off : Int} (tgt : Nat) (C : kC X g cc own rm nn) (d : decode cc pc = .ok (.ifnonnull off, 3)) (ht : (pc : Int) + off = (tgt : Int)) (kk : jJ X g res ws a b tgt lv st F) : jJ X g res ws a b pc lv (.ref x :: st) F := by
  obtain ⟨p, l, e, R, s, m, args, below, meth, c, Q, A, nL⟩ := X
  obtain ⟨hx, hb, hml, hown, hts, hK, hA, hAb, hKS, hlk, rfl, hbs, rfl⟩ := C
  intro hF H locs ls hP hD hS hl
  exact lv_ifnonnull hx hb d ht (kk hF H locs ls hP hD hS hl)
theorem r_ifnonnullN {off : Int} (C : kC X g cc own rm nn) (d : decode cc pc = .ok (.ifnonnull off, 3)) (kk : jJ X g res ws a b (pc + 3) lv st F) : jJ X g res ws a b pc lv (.null :: st) F := by
  obtain ⟨p, l, e, R, s, m, args, below, meth, c, Q, A, nL⟩ := X
  obtain ⟨hx, hb, hml, hown, hts, hK, hA, hAb, hKS, hlk, rfl, hbs, rfl⟩ := C
  intro hF H locs ls hP hD hS hl
  exact lv_ifnonnullN hx hb d (kk hF H locs ls hP hD hS hl)
theorem r_lcmp {x y : Int64} (C : kC X g cc own rm nn) (d : decode cc pc = .ok (.lcmp, 1)) (kk : jJ X g res ws a b (pc + 1) lv (.int (lg_cmp x y) :: st) F) : jJ X g res ws a b pc lv (.long y :: .long x :: st) F := by
  obtain ⟨p, l, e, R, s, m, args, below, meth, c, Q, A, nL⟩ := X
  obtain ⟨hx, hb, hml, hown, hts, hK, hA, hAb, hKS, hlk, rfl, hbs, rfl⟩ := C
  intro hF H locs ls hP hD hS hl
  exact W.lcmp hx hb d (kk hF H locs ls hP hD hS hl)
theorem r_aload_nN {k : Fin 4} (C : kC X g cc own rm nn) (d : decode cc pc = .ok (.aload_n k, 1)) (j : Nat) (h : lv[j]? = some ((k : Nat), .null)) (kk : jJ X g res ws a b (pc + 1) lv (.null :: st) F) : jJ X g res ws a b pc lv st F := by
  obtain ⟨p, l, e, R, s, m, args, below, meth, c, Q, A, nL⟩ := X
  obtain ⟨hx, hb, hml, hown, hts, hK, hA, hAb, hKS, hlk, rfl, hbs, rfl⟩ := C
  intro hF H locs ls hP hD hS hl
  exact lv_aload_nN hx hb d rfl (lv_at hl j h) (kk hF H locs ls hP hD hS hl)
theorem r_astore_nN {k : Fin 4} {lv' : List (Nat × Value)} (C : kC X g cc own rm nn) (d : decode cc pc = .ok (.astore_n k, 1)) (hn : (k : Nat) < nn) (ks : List Nat) (h : lv_pick (((k : Nat), Value.null) :: lv.filter (fun q => !(q.1 == (k : Nat)) && !(q.1 + 1 == (k : Nat) && q.2.category == 2))) ks = lv') (kk : jJ X g res ws a b (pc + 1) lv' st F) : jJ X g res ws a b pc lv (.null :: st) F := by
  obtain ⟨p, l, e, R, s, m, args, below, meth, c, Q, A, nL⟩ := X
  obtain ⟨hx, hb, hml, hown, hts, hK, hA, hAb, hKS, hlk, rfl, hbs, rfl⟩ := C
  intro hF H locs ls hP hD hS hl
  exact lv_astore_nN hx hb d rfl hl hn rfl (fun ls' hl' => kk hF H locs ls' hP hD hS (lv_sub hl' ks h))
theorem r_aloadN {k : Nat} (C : kC X g cc own rm nn) (d : decode cc pc = .ok (.aload k, 2)) (j : Nat) (h : lv[j]? = some (k, .null)) (kk : jJ X g res ws a b (pc + 2) lv (.null :: st) F) : jJ X g res ws a b pc lv st F := by
  obtain ⟨p, l, e, R, s, m, args, below, meth, c, Q, A, nL⟩ := X
  obtain ⟨hx, hb, hml, hown, hts, hK, hA, hAb, hKS, hlk, rfl, hbs, rfl⟩ := C
  intro hF H locs ls hP hD hS hl
  exact lv_aloadN hx hb d (lv_at hl j h) (kk hF H locs ls hP hD hS hl)
theorem r_astoreN {k : Nat} {lv' : List (Nat × Value)} (C : kC X g cc own rm nn) (d : decode cc pc = .ok (.astore k, 2)) (hn : k < nn) (ks : List Nat) (h : lv_pick ((k, Value.null) :: lv.filter (fun q => !(q.1 == k) && !(q.1 + 1 == k && q.2.category == 2))) ks = lv') (kk : jJ X g res ws a b (pc + 2) lv' st F) : jJ X g res ws a b pc lv (.null :: st) F := by
  obtain ⟨p, l, e, R, s, m, args, below, meth, c, Q, A, nL⟩ := X
  obtain ⟨hx, hb, hml, hown, hts, hK, hA, hAb, hKS, hlk, rfl, hbs, rfl⟩ := C
  intro hF H locs ls hP hD hS hl
  exact lv_astoreN hx hb d hl hn rfl (fun ls' hl' => kk hF H locs ls' hP hD hS (lv_sub hl' ks h))
theorem kmm_max : Cond.code Lib.Math.max.name Lib.Math.max.code 2 (some .int) ∈ kTb := kw_1_75
theorem r_mmax {x y : Int32} {index : Nat} (C : kC X g cc own rm nn) (h1 : Cond.methodLink own index Lib.Math.max.name ∈ kTb) (hfr : 1 ≤ rm.frames) (hlo : (st.map fun v => v.category).sum + 13 ≤ rm.locals) (hcs : a ≤ rm.cells ∧ b ≤ rm.slots) (d : decode cc pc = .ok (.invokestatic index, 3)) (kk : jJ X g res ws a b (pc + 3) lv (.int (if x < y then y else x) :: st) F) : jJ X g res ws a b pc lv (.int y :: .int x :: st) F := by
  obtain ⟨p, l, e, R, s, m, args, below, meth, c, Q, A, nL⟩ := X
  obtain ⟨hx, hb, hml, hown, hts, hK, hA, hAb, hKS, hlk, rfl, hbs, rfl⟩ := C
  intro hF H locs ls hP hD hS hl
  exact va_mmax hx hb (hml.trans hl.1.symm) hown (hts _ h1) (hts _ kw_1_74) (hts _ kw_1_5) (hts _ kmm_max) hfr hlo hcs.1 hcs.2 d (kk hF H locs ls hP hD hS hl)
theorem kmm_min : Cond.code Lib.Math.min.name Lib.Math.min.code 2 (some .int) ∈ kTb := kw_2_186
theorem r_mmin {x y : Int32} {index : Nat} (C : kC X g cc own rm nn) (h1 : Cond.methodLink own index Lib.Math.min.name ∈ kTb) (hfr : 1 ≤ rm.frames) (hlo : (st.map fun v => v.category).sum + 13 ≤ rm.locals) (hcs : a ≤ rm.cells ∧ b ≤ rm.slots) (d : decode cc pc = .ok (.invokestatic index, 3)) (kk : jJ X g res ws a b (pc + 3) lv (.int (if y < x then y else x) :: st) F) : jJ X g res ws a b pc lv (.int y :: .int x :: st) F := by
  obtain ⟨p, l, e, R, s, m, args, below, meth, c, Q, A, nL⟩ := X
  obtain ⟨hx, hb, hml, hown, hts, hK, hA, hAb, hKS, hlk, rfl, hbs, rfl⟩ := C
  intro hF H locs ls hP hD hS hl
  exact va_mmin hx hb (hml.trans hl.1.symm) hown (hts _ h1) (hts _ kw_2_185) (hts _ kw_1_5) (hts _ kmm_min) hfr hlo hcs.1 hcs.2 d (kk hF H locs ls hP hD hS hl)
theorem r_cVpr {fs st0 : List Value} {v : Value} {y : MethodName} {bytes : ByteArray} {maxL n index adr ci N : Nat} {ret : Option FieldType} {rm' : Room} {As : List Value} {T : u_T} (C : kC X g cc own rm nn) (hM : ∀ l, kM l y bytes maxL ret rm' g (.ref adr :: As) ws ws (some v) 0 0) (hy : kY y bytes maxL ret n) (hi : Cond.instanceMethod y ∈ kTb) (hs : Cond.selects y.cls y y ∈ kTb) (h1 : Cond.methodLink own index y ∈ kTb) (hn : As.length = n) (hR : rm'.frames + 1 ≤ rm.frames ∧ 8 + (maxL + 11) + rm'.locals ≤ rm.locals) (hrc : rm'.cells = 0) (hrs : rm'.slots = 0) (hcs : a ≤ rm.cells ∧ b ≤ rm.slots) (q0 : Nat) (he : ws[q0]? = some (adr, .inr (ci, fs))) (hc : vwCl[ci]? = some (y.cls, T, N)) (hst : st0 = As.reverse ++ .ref adr :: st) (hcat : (st.map fun v => v.category).sum ≤ 8) (d : decode cc pc = .ok (.invokevirtual index, 3)) (kk : jJ X g res ws a b (pc + 3) lv (v :: st) F) : jJ X g res ws a b pc lv st0 F :=
  r_callV (α := Unit) (fN := some ()) (ov := fun _ => some v) (wv := fun _ => ws) (G := fun _ => F) C (fun _ _ => hM) hy hi hs h1 hn hR hrc hrs hcs q0 he hc hst hcat d (fun _ => kk)
theorem r_retPL {res v : Int64} (hR : ∀ (pc : Nat) (lv : List (Nat × Value)), decode cc pc = .ok (.lreturn, 1) → jW X g ws a b pc lv [.long res]) (d : decode cc pc = .ok (.lreturn, 1)) : jJ X g res ws a b pc lv [.long v] (some v) := by
  intro hF; injection hF with h; subst h; exact hR pc lv d
end KROWS2
theorem k_open_b {y : MethodName} {cc : ByteArray} {n : Nat} {rm : Room} {g : KG} {av : List Value} {w0 w1 : va_W} {mc ms : Nat} {r : Int32} {own : String} (hr : narrow .byte (.int r) = .int r) (hy : plainName y.cls = true) (ho : y.cls = own) (hlen : (lg_sl av).length ≤ n) (body : ∀ X : KX, kC X g cc own rm n → (∀ (pc : Nat) (lv : List (Nat × Value)), decode cc pc = .ok (.ireturn, 1) → jW X g w1 mc ms pc lv [.int r]) → jW X g w0 0 0 0 (lv_args 0 av) []) (l : Launch) : kM l y cc n (some .byte) rm g av w0 w1 (some (.int r)) mc ms := by
  intro sz
  refine Met.ofW (cc := cc) (maxL := n) (ret := some .byte) hy rfl ?_
  intro p e s m args below meth c s₁ B hml hv
  obtain ⟨rfl, hsz, hP, hK, hD0, hbs, hKS⟩ := hv
  subst hsz
  have hD := hD0.self (sz := s.heap.size)
  have hl := lv_entry av hlen
  rw [lg_entry_eq]
  refine body (p, l, e, rm, s, m, av.toArray, below, meth, c, MQ below (kQ g w0 w1 s.heap.size (some (.int r))) av.toArray s mc ms (va_A w0 s.heap.size), va_A w0 s.heap.size, n) ⟨B.exec, B.bytes, hml, ho ▸ findClass_of_methodNamed B.named, fun w h => atoms_spec B.pre w (List.mem_cons_of_mem _ h), hK, fun q h => Or.inr h, fun q h => ?_, hKS, B.notSynchronized, rfl, hbs, rfl⟩ (fun pc lv d => ?_) s.heap [] _ hP hD va_S.rf hl
  · rcases h with ⟨k, e, h⟩ | h
    · exact hD0.2 k _ h
    · exact Nat.le_trans hbs h
  · intro H locs ls hP hD hS hl
    exact W.zret B.exec B.bytes B.returns hr (fun t ht hW => ⟨⟨rfl, by rw [ht]; exact hP, hD⟩, hS.F ht⟩) hS.2.2 d B.notSynchronized
theorem k_open_l {y : MethodName} {cc : ByteArray} {n : Nat} {rm : Room} {g : KG} {av : List Value} {w0 w1 : va_W} {mc ms : Nat} {r : Int64} {own : String} (hy : plainName y.cls = true) (ho : y.cls = own) (hlen : (lg_sl av).length ≤ n) (body : ∀ X : KX, kC X g cc own rm n → (∀ (pc : Nat) (lv : List (Nat × Value)), decode cc pc = .ok (.lreturn, 1) → jW X g w1 mc ms pc lv [.long r]) → jW X g w0 0 0 0 (lv_args 0 av) []) (l : Launch) : kM l y cc n (some .long) rm g av w0 w1 (some (.long r)) mc ms := by
  intro sz
  refine Met.ofW (cc := cc) (maxL := n) (ret := some .long) hy rfl ?_
  intro p e s m args below meth c s₁ B hml hv
  obtain ⟨rfl, hsz, hP, hK, hD0, hbs, hKS⟩ := hv
  subst hsz
  have hD := hD0.self (sz := s.heap.size)
  have hl := lv_entry av hlen
  rw [lg_entry_eq]
  refine body (p, l, e, rm, s, m, av.toArray, below, meth, c, MQ below (kQ g w0 w1 s.heap.size (some (.long r))) av.toArray s mc ms (va_A w0 s.heap.size), va_A w0 s.heap.size, n) ⟨B.exec, B.bytes, hml, ho ▸ findClass_of_methodNamed B.named, fun w h => atoms_spec B.pre w (List.mem_cons_of_mem _ h), hK, fun q h => Or.inr h, fun q h => ?_, hKS, B.notSynchronized, rfl, hbs, rfl⟩ (fun pc lv d => ?_) s.heap [] _ hP hD va_S.rf hl
  · rcases h with ⟨k, e, h⟩ | h
    · exact hD0.2 k _ h
    · exact Nat.le_trans hbs h
  · intro H locs ls hP hD hS hl
    exact W.lret B.exec B.bytes B.returns (fun t ht hW => ⟨⟨rfl, by rw [ht]; exact hP, hD⟩, hS.F ht⟩) hS.2.2 d B.notSynchronized
theorem k_open_r {y : MethodName} {cc : ByteArray} {n : Nat} {rm : Room} {g : KG} {av : List Value} {w0 w1 : va_W} {mc ms : Nat} {v : Value} {rt : FieldType} {own : String} (hrt : (∃ n, rt = .object n) ∨ ∃ t, rt = .array t) (hv : v = .null ∨ ∃ a, v = .ref a) (hy : plainName y.cls = true) (ho : y.cls = own) (hlen : (lg_sl av).length ≤ n) (body : ∀ X : KX, kC X g cc own rm n → (∀ (pc : Nat) (lv : List (Nat × Value)), decode cc pc = .ok (.areturn, 1) → jW X g w1 mc ms pc lv [v]) → jW X g w0 0 0 0 (lv_args 0 av) []) (l : Launch) : kM l y cc n (some rt) rm g av w0 w1 (some (v)) mc ms := by
  intro sz
  refine Met.ofW (cc := cc) (maxL := n) (ret := some rt) hy rfl ?_
  intro p e s m args below meth c s₁ B hml hv
  obtain ⟨rfl, hsz, hP, hK, hD0, hbs, hKS⟩ := hv
  subst hsz
  have hD := hD0.self (sz := s.heap.size)
  have hl := lv_entry av hlen
  rw [lg_entry_eq]
  refine body (p, l, e, rm, s, m, av.toArray, below, meth, c, MQ below (kQ g w0 w1 s.heap.size (some (v))) av.toArray s mc ms (va_A w0 s.heap.size), va_A w0 s.heap.size, n) ⟨B.exec, B.bytes, hml, ho ▸ findClass_of_methodNamed B.named, fun w h => atoms_spec B.pre w (List.mem_cons_of_mem _ h), hK, fun q h => Or.inr h, fun q h => ?_, hKS, B.notSynchronized, rfl, hbs, rfl⟩ (fun pc lv d => ?_) s.heap [] _ hP hD va_S.rf hl
  · rcases h with ⟨k, e, h⟩ | h
    · exact hD0.2 k _ h
    · exact Nat.le_trans hbs h
  · intro H locs ls hP hD hS hl
    exact W.aret B.exec B.bytes B.returns hrt hv (fun t ht hW => ⟨⟨rfl, by rw [ht]; exact hP, hD⟩, hS.F ht⟩) hS.2.2 d B.notSynchronized
