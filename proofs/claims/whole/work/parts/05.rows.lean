section KROWS
variable {X : KX} {g : KG} {cc : ByteArray} {own : String} {rm : Room} {nn : Nat} {ρ : Type} {res : ρ} {ws : va_W} {a b pc : Nat} {lv : List (Nat × Value)} {st : List Value} {F F1 F2 : Option ρ}
theorem r_iload_n {k : Fin 4} {x : Int32} (C : kC X g cc own rm nn) (d : decode cc pc = .ok (.iload_n k, 1)) (j : Nat) (h : lv[j]? = some ((k : Nat), .int x)) (kk : jJ X g res ws a b (pc + 1) lv (.int x :: st) F) : jJ X g res ws a b pc lv (st) F := by
  obtain ⟨p, l, e, R, s, m, args, below, meth, c, Q, A, nL⟩ := X
  obtain ⟨hx, hb, hml, hown, hts, hK, hA, hAb, hKS, hlk, rfl, hbs, rfl⟩ := C
  intro hF H locs ls hP hD hS hl
  exact lv_iload_n hx hb d rfl (lv_at hl j h) (kk hF H locs ls hP hD hS hl)
theorem r_iload {k : Nat} {x : Int32} (C : kC X g cc own rm nn) (d : decode cc pc = .ok (.iload k, 2)) (j : Nat) (h : lv[j]? = some (k, .int x)) (kk : jJ X g res ws a b (pc + 2) lv (.int x :: st) F) : jJ X g res ws a b pc lv (st) F := by
  obtain ⟨p, l, e, R, s, m, args, below, meth, c, Q, A, nL⟩ := X
  obtain ⟨hx, hb, hml, hown, hts, hK, hA, hAb, hKS, hlk, rfl, hbs, rfl⟩ := C
  intro hF H locs ls hP hD hS hl
  exact lv_iload hx hb d (lv_at hl j h) (kk hF H locs ls hP hD hS hl)
theorem r_aload_n {k : Fin 4} {x : Nat} (C : kC X g cc own rm nn) (d : decode cc pc = .ok (.aload_n k, 1)) (j : Nat) (h : lv[j]? = some ((k : Nat), .ref x)) (kk : jJ X g res ws a b (pc + 1) lv (.ref x :: st) F) : jJ X g res ws a b pc lv (st) F := by
  obtain ⟨p, l, e, R, s, m, args, below, meth, c, Q, A, nL⟩ := X
  obtain ⟨hx, hb, hml, hown, hts, hK, hA, hAb, hKS, hlk, rfl, hbs, rfl⟩ := C
  intro hF H locs ls hP hD hS hl
  exact lv_aload_n hx hb d rfl (lv_at hl j h) (kk hF H locs ls hP hD hS hl)
theorem r_aload {k : Nat} {x : Nat} (C : kC X g cc own rm nn) (d : decode cc pc = .ok (.aload k, 2)) (j : Nat) (h : lv[j]? = some (k, .ref x)) (kk : jJ X g res ws a b (pc + 2) lv (.ref x :: st) F) : jJ X g res ws a b pc lv (st) F := by
  obtain ⟨p, l, e, R, s, m, args, below, meth, c, Q, A, nL⟩ := X
  obtain ⟨hx, hb, hml, hown, hts, hK, hA, hAb, hKS, hlk, rfl, hbs, rfl⟩ := C
  intro hF H locs ls hP hD hS hl
  exact lv_aload hx hb d (lv_at hl j h) (kk hF H locs ls hP hD hS hl)
theorem r_lload_n {k : Fin 4} {x : Int64} (C : kC X g cc own rm nn) (d : decode cc pc = .ok (.lload_n k, 1)) (j : Nat) (h : lv[j]? = some ((k : Nat), .long x)) (kk : jJ X g res ws a b (pc + 1) lv (.long x :: st) F) : jJ X g res ws a b pc lv (st) F := by
  obtain ⟨p, l, e, R, s, m, args, below, meth, c, Q, A, nL⟩ := X
  obtain ⟨hx, hb, hml, hown, hts, hK, hA, hAb, hKS, hlk, rfl, hbs, rfl⟩ := C
  intro hF H locs ls hP hD hS hl
  exact lv_lload_n hx hb d rfl (lv_at hl j h) (kk hF H locs ls hP hD hS hl)
theorem r_lload {k : Nat} {x : Int64} (C : kC X g cc own rm nn) (d : decode cc pc = .ok (.lload k, 2)) (j : Nat) (h : lv[j]? = some (k, .long x)) (kk : jJ X g res ws a b (pc + 2) lv (.long x :: st) F) : jJ X g res ws a b pc lv (st) F := by
  obtain ⟨p, l, e, R, s, m, args, below, meth, c, Q, A, nL⟩ := X
  obtain ⟨hx, hb, hml, hown, hts, hK, hA, hAb, hKS, hlk, rfl, hbs, rfl⟩ := C
  intro hF H locs ls hP hD hS hl
  exact lv_lload hx hb d (lv_at hl j h) (kk hF H locs ls hP hD hS hl)
theorem r_istore_n {k : Fin 4} {x : Int32} {lv' : List (Nat × Value)} (C : kC X g cc own rm nn) (d : decode cc pc = .ok (.istore_n k, 1)) (hn : (k : Nat) < nn) (ks : List Nat) (h : lv_pick (((k : Nat), Value.int x) :: lv.filter (fun q => !(q.1 == (k : Nat)) && !(q.1 + 1 == (k : Nat) && q.2.category == 2))) ks = lv') (kk : jJ X g res ws a b (pc + 1) lv' st F) : jJ X g res ws a b pc lv (.int x :: st) F := by
  obtain ⟨p, l, e, R, s, m, args, below, meth, c, Q, A, nL⟩ := X
  obtain ⟨hx, hb, hml, hown, hts, hK, hA, hAb, hKS, hlk, rfl, hbs, rfl⟩ := C
  intro hF H locs ls hP hD hS hl
  exact lv_istore_n hx hb d rfl hl hn rfl (fun ls' hl' => kk hF H locs ls' hP hD hS (lv_sub hl' ks h))
theorem r_istoreV_n {k : Fin 4} {x : Int32} {lv' : Int32 → List (Nat × Value)} {G : Int32 → Option ρ} (C : kC X g cc own rm nn) (d : decode cc pc = .ok (.istore_n k, 1)) (hn : (k : Nat) < nn) (ks : List Nat) (h : ∀ v, lv_pick (((k : Nat), Value.int v) :: lv.filter (fun q => !(q.1 == (k : Nat)) && !(q.1 + 1 == (k : Nat) && q.2.category == 2))) ks = lv' v) (kk : ∀ v, jJ X g res ws a b (pc + 1) (lv' v) st (G v)) : jJ X g res ws a b pc lv (.int x :: st) (lt x G) := by
  exact r_istore_n C d hn ks (h x) (kk x)
theorem r_istore {k : Nat} {x : Int32} {lv' : List (Nat × Value)} (C : kC X g cc own rm nn) (d : decode cc pc = .ok (.istore k, 2)) (hn : k < nn) (ks : List Nat) (h : lv_pick ((k, Value.int x) :: lv.filter (fun q => !(q.1 == k) && !(q.1 + 1 == k && q.2.category == 2))) ks = lv') (kk : jJ X g res ws a b (pc + 2) lv' st F) : jJ X g res ws a b pc lv (.int x :: st) F := by
  obtain ⟨p, l, e, R, s, m, args, below, meth, c, Q, A, nL⟩ := X
  obtain ⟨hx, hb, hml, hown, hts, hK, hA, hAb, hKS, hlk, rfl, hbs, rfl⟩ := C
  intro hF H locs ls hP hD hS hl
  exact lv_istore hx hb d hl hn rfl (fun ls' hl' => kk hF H locs ls' hP hD hS (lv_sub hl' ks h))
theorem r_istoreV {k : Nat} {x : Int32} {lv' : Int32 → List (Nat × Value)} {G : Int32 → Option ρ} (C : kC X g cc own rm nn) (d : decode cc pc = .ok (.istore k, 2)) (hn : k < nn) (ks : List Nat) (h : ∀ v, lv_pick ((k, Value.int v) :: lv.filter (fun q => !(q.1 == k) && !(q.1 + 1 == k && q.2.category == 2))) ks = lv' v) (kk : ∀ v, jJ X g res ws a b (pc + 2) (lv' v) st (G v)) : jJ X g res ws a b pc lv (.int x :: st) (lt x G) := by
  exact r_istore C d hn ks (h x) (kk x)
theorem r_astore_n {k : Fin 4} {x : Nat} {lv' : List (Nat × Value)} (C : kC X g cc own rm nn) (d : decode cc pc = .ok (.astore_n k, 1)) (hn : (k : Nat) < nn) (ks : List Nat) (h : lv_pick (((k : Nat), Value.ref x) :: lv.filter (fun q => !(q.1 == (k : Nat)) && !(q.1 + 1 == (k : Nat) && q.2.category == 2))) ks = lv') (kk : jJ X g res ws a b (pc + 1) lv' st F) : jJ X g res ws a b pc lv (.ref x :: st) F := by
  obtain ⟨p, l, e, R, s, m, args, below, meth, c, Q, A, nL⟩ := X
  obtain ⟨hx, hb, hml, hown, hts, hK, hA, hAb, hKS, hlk, rfl, hbs, rfl⟩ := C
  intro hF H locs ls hP hD hS hl
  exact lv_astore_n hx hb d rfl hl hn rfl (fun ls' hl' => kk hF H locs ls' hP hD hS (lv_sub hl' ks h))
theorem r_astore {k : Nat} {x : Nat} {lv' : List (Nat × Value)} (C : kC X g cc own rm nn) (d : decode cc pc = .ok (.astore k, 2)) (hn : k < nn) (ks : List Nat) (h : lv_pick ((k, Value.ref x) :: lv.filter (fun q => !(q.1 == k) && !(q.1 + 1 == k && q.2.category == 2))) ks = lv') (kk : jJ X g res ws a b (pc + 2) lv' st F) : jJ X g res ws a b pc lv (.ref x :: st) F := by
  obtain ⟨p, l, e, R, s, m, args, below, meth, c, Q, A, nL⟩ := X
  obtain ⟨hx, hb, hml, hown, hts, hK, hA, hAb, hKS, hlk, rfl, hbs, rfl⟩ := C
  intro hF H locs ls hP hD hS hl
  exact lv_astore hx hb d hl hn rfl (fun ls' hl' => kk hF H locs ls' hP hD hS (lv_sub hl' ks h))
theorem r_lstore_n {k : Fin 4} {x : Int64} {lv' : List (Nat × Value)} (C : kC X g cc own rm nn) (d : decode cc pc = .ok (.lstore_n k, 1)) (hn : (k : Nat) + 1 < nn) (ks : List Nat) (h : lv_pick (((k : Nat), Value.long x) :: lv.filter (fun q => !(q.1 == (k : Nat)) && (!(q.1 == (k : Nat) + 1) && !(q.1 + 1 == (k : Nat) && q.2.category == 2)))) ks = lv') (kk : jJ X g res ws a b (pc + 1) lv' st F) : jJ X g res ws a b pc lv (.long x :: st) F := by
  obtain ⟨p, l, e, R, s, m, args, below, meth, c, Q, A, nL⟩ := X
  obtain ⟨hx, hb, hml, hown, hts, hK, hA, hAb, hKS, hlk, rfl, hbs, rfl⟩ := C
  intro hF H locs ls hP hD hS hl
  exact lv_lstore_n hx hb d rfl hl hn rfl (fun ls' hl' => kk hF H locs ls' hP hD hS (lv_sub hl' ks h))
theorem r_lstoreV_n {k : Fin 4} {x : Int64} {lv' : Int64 → List (Nat × Value)} {G : Int64 → Option ρ} (C : kC X g cc own rm nn) (d : decode cc pc = .ok (.lstore_n k, 1)) (hn : (k : Nat) + 1 < nn) (ks : List Nat) (h : ∀ v, lv_pick (((k : Nat), Value.long v) :: lv.filter (fun q => !(q.1 == (k : Nat)) && (!(q.1 == (k : Nat) + 1) && !(q.1 + 1 == (k : Nat) && q.2.category == 2)))) ks = lv' v) (kk : ∀ v, jJ X g res ws a b (pc + 1) (lv' v) st (G v)) : jJ X g res ws a b pc lv (.long x :: st) (lt x G) := by
  exact r_lstore_n C d hn ks (h x) (kk x)
theorem r_lstore {k : Nat} {x : Int64} {lv' : List (Nat × Value)} (C : kC X g cc own rm nn) (d : decode cc pc = .ok (.lstore k, 2)) (hn : k + 1 < nn) (ks : List Nat) (h : lv_pick ((k, Value.long x) :: lv.filter (fun q => !(q.1 == k) && (!(q.1 == k + 1) && !(q.1 + 1 == k && q.2.category == 2)))) ks = lv') (kk : jJ X g res ws a b (pc + 2) lv' st F) : jJ X g res ws a b pc lv (.long x :: st) F := by
  obtain ⟨p, l, e, R, s, m, args, below, meth, c, Q, A, nL⟩ := X
  obtain ⟨hx, hb, hml, hown, hts, hK, hA, hAb, hKS, hlk, rfl, hbs, rfl⟩ := C
  intro hF H locs ls hP hD hS hl
  exact lv_lstore hx hb d hl hn rfl (fun ls' hl' => kk hF H locs ls' hP hD hS (lv_sub hl' ks h))
theorem r_lstoreV {k : Nat} {x : Int64} {lv' : Int64 → List (Nat × Value)} {G : Int64 → Option ρ} (C : kC X g cc own rm nn) (d : decode cc pc = .ok (.lstore k, 2)) (hn : k + 1 < nn) (ks : List Nat) (h : ∀ v, lv_pick ((k, Value.long v) :: lv.filter (fun q => !(q.1 == k) && (!(q.1 == k + 1) && !(q.1 + 1 == k && q.2.category == 2)))) ks = lv' v) (kk : ∀ v, jJ X g res ws a b (pc + 2) (lv' v) st (G v)) : jJ X g res ws a b pc lv (.long x :: st) (lt x G) := by
  exact r_lstore C d hn ks (h x) (kk x)
theorem r_iinc {k : Nat} {n : Int} {x v : Int32} {lv' : Int32 → List (Nat × Value)} {G : Int32 → Option ρ} (C : kC X g cc own rm nn) (d : decode cc pc = .ok (.iinc k n, 3)) (j : Nat) (hj : lv[j]? = some (k, .int x)) (hv : Int32.ofInt n = v) (hn : k < nn) (ks : List Nat) (h : ∀ v, lv_pick ((k, Value.int v) :: lv.filter (fun q => !(q.1 == k) && !(q.1 + 1 == k && q.2.category == 2))) ks = lv' v) (kk : ∀ v, jJ X g res ws a b (pc + 3) (lv' v) st (G v)) : jJ X g res ws a b pc lv st (lt (x + v) G) := by
  obtain ⟨p, l, e, R, s, m, args, below, meth, c, Q, A, nL⟩ := X
  obtain ⟨hx, hb, hml, hown, hts, hK, hA, hAb, hKS, hlk, rfl, hbs, rfl⟩ := C
  intro hF H locs ls hP hD hS hl
  subst hv
  exact lv_iinc hx hb d hl hj rfl hn rfl (fun ls' hl' => kk _ hF H locs ls' hP hD hS (lv_sub hl' ks (h _)))
theorem r_sub {lv' : List (Nat × Value)} (ks : List Nat) (h : lv_pick lv ks = lv') (kk : jJ X g res ws a b pc lv' st F) : jJ X g res ws a b pc lv st F := by
  obtain ⟨p, l, e, R, s, m, args, below, meth, c, Q, A, nL⟩ := X
  intro hF H locs ls hP hD hS hl
  exact kk hF H locs ls hP hD hS (lv_sub hl ks h)
theorem r_iconst {n : Int} {v : Int32} (C : kC X g cc own rm nn) (d : decode cc pc = .ok (.iconst n, 1)) (hv : Int32.ofInt n = v) (kk : jJ X g res ws a b (pc + 1) lv (.int v :: st) F) : jJ X g res ws a b pc lv (st) F := by
  obtain ⟨p, l, e, R, s, m, args, below, meth, c, Q, A, nL⟩ := X
  obtain ⟨hx, hb, hml, hown, hts, hK, hA, hAb, hKS, hlk, rfl, hbs, rfl⟩ := C
  intro hF H locs ls hP hD hS hl
  exact lv_iconst hx hb d hv (kk hF H locs ls hP hD hS hl)
theorem r_bipush {n : Int} {v : Int32} (C : kC X g cc own rm nn) (d : decode cc pc = .ok (.bipush n, 2)) (hv : (Int8.ofInt n).toInt32 = v) (kk : jJ X g res ws a b (pc + 2) lv (.int v :: st) F) : jJ X g res ws a b pc lv (st) F := by
  obtain ⟨p, l, e, R, s, m, args, below, meth, c, Q, A, nL⟩ := X
  obtain ⟨hx, hb, hml, hown, hts, hK, hA, hAb, hKS, hlk, rfl, hbs, rfl⟩ := C
  intro hF H locs ls hP hD hS hl
  exact lv_bipush hx hb d hv (kk hF H locs ls hP hD hS hl)
theorem r_sipush {n : Int} {v : Int32} (C : kC X g cc own rm nn) (d : decode cc pc = .ok (.sipush n, 3)) (hv : (Int16.ofInt n).toInt32 = v) (kk : jJ X g res ws a b (pc + 3) lv (.int v :: st) F) : jJ X g res ws a b pc lv (st) F := by
  obtain ⟨p, l, e, R, s, m, args, below, meth, c, Q, A, nL⟩ := X
  obtain ⟨hx, hb, hml, hown, hts, hK, hA, hAb, hKS, hlk, rfl, hbs, rfl⟩ := C
  intro hF H locs ls hP hD hS hl
  exact lv_sipush hx hb d hv (kk hF H locs ls hP hD hS hl)
theorem r_lconst {n : Fin 2} {v : Int64} (C : kC X g cc own rm nn) (d : decode cc pc = .ok (.lconst n, 1)) (hv : Int64.ofNat (n : Nat) = v) (kk : jJ X g res ws a b (pc + 1) lv (.long v :: st) F) : jJ X g res ws a b pc lv (st) F := by
  obtain ⟨p, l, e, R, s, m, args, below, meth, c, Q, A, nL⟩ := X
  obtain ⟨hx, hb, hml, hown, hts, hK, hA, hAb, hKS, hlk, rfl, hbs, rfl⟩ := C
  intro hF H locs ls hP hD hS hl
  exact lv_lconst hx hb d hv (kk hF H locs ls hP hD hS hl)
theorem r_ldc {i : Nat} {v : Int32} (C : kC X g cc own rm nn) (d : decode cc pc = .ok (.ldc i, 2)) (hw : Cond.constant own i v ∈ kTb) (kk : jJ X g res ws a b (pc + 2) lv (.int v :: st) F) : jJ X g res ws a b pc lv (st) F := by
  obtain ⟨p, l, e, R, s, m, args, below, meth, c, Q, A, nL⟩ := X
  obtain ⟨hx, hb, hml, hown, hts, hK, hA, hAb, hKS, hlk, rfl, hbs, rfl⟩ := C
  intro hF H locs ls hP hD hS hl
  exact lv_ldc hx hb hown (hts _ hw) d (kk hF H locs ls hP hD hS hl)
theorem r_ldcw {i : Nat} {v : Int32} (C : kC X g cc own rm nn) (d : decode cc pc = .ok (.ldc_w i, 3)) (hw : Cond.constant own i v ∈ kTb) (kk : jJ X g res ws a b (pc + 3) lv (.int v :: st) F) : jJ X g res ws a b pc lv (st) F := by
  obtain ⟨p, l, e, R, s, m, args, below, meth, c, Q, A, nL⟩ := X
  obtain ⟨hx, hb, hml, hown, hts, hK, hA, hAb, hKS, hlk, rfl, hbs, rfl⟩ := C
  intro hF H locs ls hP hD hS hl
  exact lv_ldcw hx hb hown (hts _ hw) d (kk hF H locs ls hP hD hS hl)
theorem r_ldc2 {i : Nat} {v : Int64} (C : kC X g cc own rm nn) (d : decode cc pc = .ok (.ldc2_w i, 3)) (hw : Cond.constantLong own i v ∈ kTb) (kk : jJ X g res ws a b (pc + 3) lv (.long v :: st) F) : jJ X g res ws a b pc lv (st) F := by
  obtain ⟨p, l, e, R, s, m, args, below, meth, c, Q, A, nL⟩ := X
  obtain ⟨hx, hb, hml, hown, hts, hK, hA, hAb, hKS, hlk, rfl, hbs, rfl⟩ := C
  intro hF H locs ls hP hD hS hl
  exact lv_ldc2 hx hb hown (hts _ hw) d (kk hF H locs ls hP hD hS hl)
theorem r_null  (C : kC X g cc own rm nn) (d : decode cc pc = .ok (.aconst_null, 1)) (kk : jJ X g res ws a b (pc + 1) lv (.null :: st) F) : jJ X g res ws a b pc lv (st) F := by
  obtain ⟨p, l, e, R, s, m, args, below, meth, c, Q, A, nL⟩ := X
  obtain ⟨hx, hb, hml, hown, hts, hK, hA, hAb, hKS, hlk, rfl, hbs, rfl⟩ := C
  intro hF H locs ls hP hD hS hl
  exact lv_null hx hb d (kk hF H locs ls hP hD hS hl)
theorem r_dup {v : Value} (C : kC X g cc own rm nn) (d : decode cc pc = .ok (.dup, 1)) (hv : v.category = 1) (kk : jJ X g res ws a b (pc + 1) lv (v :: v :: st) F) : jJ X g res ws a b pc lv (v :: st) F := by
  obtain ⟨p, l, e, R, s, m, args, below, meth, c, Q, A, nL⟩ := X
  obtain ⟨hx, hb, hml, hown, hts, hK, hA, hAb, hKS, hlk, rfl, hbs, rfl⟩ := C
  intro hF H locs ls hP hD hS hl
  exact lv_dup hx hb d hv (kk hF H locs ls hP hD hS hl)
theorem r_dup2 {v w : Value} (C : kC X g cc own rm nn) (d : decode cc pc = .ok (.dup2, 1)) (hv : v.category = 1) (hw : w.category = 1) (kk : jJ X g res ws a b (pc + 1) lv (v :: w :: v :: w :: st) F) : jJ X g res ws a b pc lv (v :: w :: st) F := by
  obtain ⟨p, l, e, R, s, m, args, below, meth, c, Q, A, nL⟩ := X
  obtain ⟨hx, hb, hml, hown, hts, hK, hA, hAb, hKS, hlk, rfl, hbs, rfl⟩ := C
  intro hF H locs ls hP hD hS hl
  exact lv_dup2_11 hx hb d hv hw (kk hF H locs ls hP hD hS hl)
theorem r_pop {v : Value} (C : kC X g cc own rm nn) (d : decode cc pc = .ok (.pop, 1)) (hv : v.category = 1) (kk : jJ X g res ws a b (pc + 1) lv (st) F) : jJ X g res ws a b pc lv (v :: st) F := by
  obtain ⟨p, l, e, R, s, m, args, below, meth, c, Q, A, nL⟩ := X
  obtain ⟨hx, hb, hml, hown, hts, hK, hA, hAb, hKS, hlk, rfl, hbs, rfl⟩ := C
  intro hF H locs ls hP hD hS hl
  exact lv_pop hx hb d hv (kk hF H locs ls hP hD hS hl)
theorem r_iadd {x y : Int32} (C : kC X g cc own rm nn) (d : decode cc pc = .ok (.iadd, 1)) (kk : jJ X g res ws a b (pc + 1) lv (.int (x + y) :: st) F) : jJ X g res ws a b pc lv (.int y :: .int x :: st) F := by
  obtain ⟨p, l, e, R, s, m, args, below, meth, c, Q, A, nL⟩ := X
  obtain ⟨hx, hb, hml, hown, hts, hK, hA, hAb, hKS, hlk, rfl, hbs, rfl⟩ := C
  intro hF H locs ls hP hD hS hl
  exact lv_iadd hx hb d (kk hF H locs ls hP hD hS hl)
theorem r_isub {x y : Int32} (C : kC X g cc own rm nn) (d : decode cc pc = .ok (.isub, 1)) (kk : jJ X g res ws a b (pc + 1) lv (.int (x - y) :: st) F) : jJ X g res ws a b pc lv (.int y :: .int x :: st) F := by
  obtain ⟨p, l, e, R, s, m, args, below, meth, c, Q, A, nL⟩ := X
  obtain ⟨hx, hb, hml, hown, hts, hK, hA, hAb, hKS, hlk, rfl, hbs, rfl⟩ := C
  intro hF H locs ls hP hD hS hl
  exact lv_isub hx hb d (kk hF H locs ls hP hD hS hl)
theorem r_imul {x y : Int32} (C : kC X g cc own rm nn) (d : decode cc pc = .ok (.imul, 1)) (kk : jJ X g res ws a b (pc + 1) lv (.int (x * y) :: st) F) : jJ X g res ws a b pc lv (.int y :: .int x :: st) F := by
  obtain ⟨p, l, e, R, s, m, args, below, meth, c, Q, A, nL⟩ := X
  obtain ⟨hx, hb, hml, hown, hts, hK, hA, hAb, hKS, hlk, rfl, hbs, rfl⟩ := C
  intro hF H locs ls hP hD hS hl
  exact lv_imul hx hb d (kk hF H locs ls hP hD hS hl)
theorem r_iand {x y : Int32} (C : kC X g cc own rm nn) (d : decode cc pc = .ok (.iand, 1)) (kk : jJ X g res ws a b (pc + 1) lv (.int (x &&& y) :: st) F) : jJ X g res ws a b pc lv (.int y :: .int x :: st) F := by
  obtain ⟨p, l, e, R, s, m, args, below, meth, c, Q, A, nL⟩ := X
  obtain ⟨hx, hb, hml, hown, hts, hK, hA, hAb, hKS, hlk, rfl, hbs, rfl⟩ := C
  intro hF H locs ls hP hD hS hl
  exact lv_iand hx hb d (kk hF H locs ls hP hD hS hl)
theorem r_ior {x y : Int32} (C : kC X g cc own rm nn) (d : decode cc pc = .ok (.ior, 1)) (kk : jJ X g res ws a b (pc + 1) lv (.int (x ||| y) :: st) F) : jJ X g res ws a b pc lv (.int y :: .int x :: st) F := by
  obtain ⟨p, l, e, R, s, m, args, below, meth, c, Q, A, nL⟩ := X
  obtain ⟨hx, hb, hml, hown, hts, hK, hA, hAb, hKS, hlk, rfl, hbs, rfl⟩ := C
  intro hF H locs ls hP hD hS hl
  exact lv_ior hx hb d (kk hF H locs ls hP hD hS hl)
theorem r_ishl {x y : Int32} (C : kC X g cc own rm nn) (d : decode cc pc = .ok (.ishl, 1)) (kk : jJ X g res ws a b (pc + 1) lv (.int (x <<< (y &&& 31)) :: st) F) : jJ X g res ws a b pc lv (.int y :: .int x :: st) F := by
  obtain ⟨p, l, e, R, s, m, args, below, meth, c, Q, A, nL⟩ := X
  obtain ⟨hx, hb, hml, hown, hts, hK, hA, hAb, hKS, hlk, rfl, hbs, rfl⟩ := C
  intro hF H locs ls hP hD hS hl
  exact lv_ishl hx hb d (kk hF H locs ls hP hD hS hl)
theorem r_ishr {x y : Int32} (C : kC X g cc own rm nn) (d : decode cc pc = .ok (.ishr, 1)) (kk : jJ X g res ws a b (pc + 1) lv (.int (x >>> (y &&& 31)) :: st) F) : jJ X g res ws a b pc lv (.int y :: .int x :: st) F := by
  obtain ⟨p, l, e, R, s, m, args, below, meth, c, Q, A, nL⟩ := X
  obtain ⟨hx, hb, hml, hown, hts, hK, hA, hAb, hKS, hlk, rfl, hbs, rfl⟩ := C
  intro hF H locs ls hP hD hS hl
  exact lv_ishr hx hb d (kk hF H locs ls hP hD hS hl)
theorem r_iushr {x y : Int32} (C : kC X g cc own rm nn) (d : decode cc pc = .ok (.iushr, 1)) (kk : jJ X g res ws a b (pc + 1) lv (.int ((x.toUInt32 >>> (y.toUInt32 &&& Int32.toUInt32 31)).toInt32) :: st) F) : jJ X g res ws a b pc lv (.int y :: .int x :: st) F := by
  obtain ⟨p, l, e, R, s, m, args, below, meth, c, Q, A, nL⟩ := X
  obtain ⟨hx, hb, hml, hown, hts, hK, hA, hAb, hKS, hlk, rfl, hbs, rfl⟩ := C
  intro hF H locs ls hP hD hS hl
  exact lv_iushr hx hb d rfl (kk hF H locs ls hP hD hS hl)
theorem r_ineg {x : Int32} (C : kC X g cc own rm nn) (d : decode cc pc = .ok (.ineg, 1)) (kk : jJ X g res ws a b (pc + 1) lv (.int (-x) :: st) F) : jJ X g res ws a b pc lv (.int x :: st) F := by
  obtain ⟨p, l, e, R, s, m, args, below, meth, c, Q, A, nL⟩ := X
  obtain ⟨hx, hb, hml, hown, hts, hK, hA, hAb, hKS, hlk, rfl, hbs, rfl⟩ := C
  intro hF H locs ls hP hD hS hl
  exact lv_ineg hx hb d (kk hF H locs ls hP hD hS hl)
theorem r_land {x y : Int64} (C : kC X g cc own rm nn) (d : decode cc pc = .ok (.land, 1)) (kk : jJ X g res ws a b (pc + 1) lv (.long (x &&& y) :: st) F) : jJ X g res ws a b pc lv (.long y :: .long x :: st) F := by
  obtain ⟨p, l, e, R, s, m, args, below, meth, c, Q, A, nL⟩ := X
  obtain ⟨hx, hb, hml, hown, hts, hK, hA, hAb, hKS, hlk, rfl, hbs, rfl⟩ := C
  intro hF H locs ls hP hD hS hl
  exact lv_land hx hb d (kk hF H locs ls hP hD hS hl)
theorem r_lor {x y : Int64} (C : kC X g cc own rm nn) (d : decode cc pc = .ok (.lor, 1)) (kk : jJ X g res ws a b (pc + 1) lv (.long (x ||| y) :: st) F) : jJ X g res ws a b pc lv (.long y :: .long x :: st) F := by
  obtain ⟨p, l, e, R, s, m, args, below, meth, c, Q, A, nL⟩ := X
  obtain ⟨hx, hb, hml, hown, hts, hK, hA, hAb, hKS, hlk, rfl, hbs, rfl⟩ := C
  intro hF H locs ls hP hD hS hl
  exact lv_lor hx hb d (kk hF H locs ls hP hD hS hl)
theorem r_lshl {x : Int64} {y : Int32} (C : kC X g cc own rm nn) (d : decode cc pc = .ok (.lshl, 1)) (kk : jJ X g res ws a b (pc + 1) lv (.long (x <<< (y.toInt64 &&& 63)) :: st) F) : jJ X g res ws a b pc lv (.int y :: .long x :: st) F := by
  obtain ⟨p, l, e, R, s, m, args, below, meth, c, Q, A, nL⟩ := X
  obtain ⟨hx, hb, hml, hown, hts, hK, hA, hAb, hKS, hlk, rfl, hbs, rfl⟩ := C
  intro hF H locs ls hP hD hS hl
  exact lv_lshl hx hb d rfl (kk hF H locs ls hP hD hS hl)
theorem r_lshr {x : Int64} {y : Int32} (C : kC X g cc own rm nn) (d : decode cc pc = .ok (.lshr, 1)) (kk : jJ X g res ws a b (pc + 1) lv (.long (x >>> (y.toInt64 &&& 63)) :: st) F) : jJ X g res ws a b pc lv (.int y :: .long x :: st) F := by
  obtain ⟨p, l, e, R, s, m, args, below, meth, c, Q, A, nL⟩ := X
  obtain ⟨hx, hb, hml, hown, hts, hK, hA, hAb, hKS, hlk, rfl, hbs, rfl⟩ := C
  intro hF H locs ls hP hD hS hl
  exact lv_lshr hx hb d rfl (kk hF H locs ls hP hD hS hl)
theorem r_i2l {x : Int32} (C : kC X g cc own rm nn) (d : decode cc pc = .ok (.i2l, 1)) (kk : jJ X g res ws a b (pc + 1) lv (.long x.toInt64 :: st) F) : jJ X g res ws a b pc lv (.int x :: st) F := by
  obtain ⟨p, l, e, R, s, m, args, below, meth, c, Q, A, nL⟩ := X
  obtain ⟨hx, hb, hml, hown, hts, hK, hA, hAb, hKS, hlk, rfl, hbs, rfl⟩ := C
  intro hF H locs ls hP hD hS hl
  exact lv_i2l hx hb d rfl (kk hF H locs ls hP hD hS hl)
theorem r_l2i {x : Int64} (C : kC X g cc own rm nn) (d : decode cc pc = .ok (.l2i, 1)) (kk : jJ X g res ws a b (pc + 1) lv (.int x.toInt32 :: st) F) : jJ X g res ws a b pc lv (.long x :: st) F := by
  obtain ⟨p, l, e, R, s, m, args, below, meth, c, Q, A, nL⟩ := X
  obtain ⟨hx, hb, hml, hown, hts, hK, hA, hAb, hKS, hlk, rfl, hbs, rfl⟩ := C
  intro hF H locs ls hP hD hS hl
  exact lv_l2i hx hb d rfl (kk hF H locs ls hP hD hS hl)
theorem r_i2b {x : Int32} (C : kC X g cc own rm nn) (d : decode cc pc = .ok (.i2b, 1)) (kk : jJ X g res ws a b (pc + 1) lv (.int x.toInt8.toInt32 :: st) F) : jJ X g res ws a b pc lv (.int x :: st) F := by
  obtain ⟨p, l, e, R, s, m, args, below, meth, c, Q, A, nL⟩ := X
  obtain ⟨hx, hb, hml, hown, hts, hK, hA, hAb, hKS, hlk, rfl, hbs, rfl⟩ := C
  intro hF H locs ls hP hD hS hl
  exact lv_i2b hx hb d rfl (kk hF H locs ls hP hD hS hl)
theorem r_i2c {x : Int32} (C : kC X g cc own rm nn) (d : decode cc pc = .ok (.i2c, 1)) (kk : jJ X g res ws a b (pc + 1) lv (.int (x.toUInt32 % 65536).toInt32 :: st) F) : jJ X g res ws a b pc lv (.int x :: st) F := by
  obtain ⟨p, l, e, R, s, m, args, below, meth, c, Q, A, nL⟩ := X
  obtain ⟨hx, hb, hml, hown, hts, hK, hA, hAb, hKS, hlk, rfl, hbs, rfl⟩ := C
  intro hF H locs ls hP hD hS hl
  exact lv_i2c hx hb d rfl (kk hF H locs ls hP hD hS hl)
theorem r_idiv {x y : Int32} (C : kC X g cc own rm nn) (d : decode cc pc = .ok (.idiv, 1)) (hy : ¬ y = 0) (kk : jJ X g res ws a b (pc + 1) lv (.int (x / y) :: st) F) : jJ X g res ws a b pc lv (.int y :: .int x :: st) F := by
  obtain ⟨p, l, e, R, s, m, args, below, meth, c, Q, A, nL⟩ := X
  obtain ⟨hx, hb, hml, hown, hts, hK, hA, hAb, hKS, hlk, rfl, hbs, rfl⟩ := C
  intro hF H locs ls hP hD hS hl
  exact lv_idiv hx hb d hy (kk hF H locs ls hP hD hS hl)
theorem r_idivN {x y : Int32} (C : kC X g cc own rm nn) (d : decode cc pc = .ok (.idiv, 1)) (kk : jJ X g res ws a b (pc + 1) lv (.int (x / y) :: st) F) : jJ X g res ws a b pc lv (.int y :: .int x :: st) (nz y F) := by
  intro hF
  unfold nz at hF
  split at hF
  · cases hF
  · exact r_idiv C d ‹_› kk hF
theorem r_irem {x y : Int32} (C : kC X g cc own rm nn) (d : decode cc pc = .ok (.irem, 1)) (hy : ¬ y = 0) (kk : jJ X g res ws a b (pc + 1) lv (.int (x - x / y * y) :: st) F) : jJ X g res ws a b pc lv (.int y :: .int x :: st) F := by
  obtain ⟨p, l, e, R, s, m, args, below, meth, c, Q, A, nL⟩ := X
  obtain ⟨hx, hb, hml, hown, hts, hK, hA, hAb, hKS, hlk, rfl, hbs, rfl⟩ := C
  intro hF H locs ls hP hD hS hl
  exact lv_irem hx hb d hy (kk hF H locs ls hP hD hS hl)
theorem r_iremN {x y : Int32} (C : kC X g cc own rm nn) (d : decode cc pc = .ok (.irem, 1)) (kk : jJ X g res ws a b (pc + 1) lv (.int (x - x / y * y) :: st) F) : jJ X g res ws a b pc lv (.int y :: .int x :: st) (nz y F) := by
  intro hF
  unfold nz at hF
  split at hF
  · cases hF
  · exact r_irem C d ‹_› kk hF
theorem r_icmp_eq {x y : Int32} {off : Int} (tgt : Nat) (C : kC X g cc own rm nn) (d : decode cc pc = .ok (.if_icmp .eq off, 3)) (ht : (pc : Int) + off = (tgt : Int)) (kt : jJ X g res ws a b tgt lv st F1) (kf : jJ X g res ws a b (pc + 3) lv st F2) : jJ X g res ws a b pc lv (.int y :: .int x :: st) (if x = y then F1 else F2) := by
  obtain ⟨p, l, e, R, s, m, args, below, meth, c, Q, A, nL⟩ := X
  obtain ⟨hx, hb, hml, hown, hts, hK, hA, hAb, hKS, hlk, rfl, hbs, rfl⟩ := C
  intro hF H locs ls hP hD hS hl
  exact lv_icmp_eq hx hb d ht (fun h => kt (by rw [if_pos h] at hF; exact hF) H locs ls hP hD hS hl) (fun h => kf (by rw [if_neg h] at hF; exact hF) H locs ls hP hD hS hl)
theorem r_if_eq {x : Int32} {off : Int} (tgt : Nat) (C : kC X g cc own rm nn) (d : decode cc pc = .ok (.ifCond .eq off, 3)) (ht : (pc : Int) + off = (tgt : Int)) (kt : jJ X g res ws a b tgt lv st F1) (kf : jJ X g res ws a b (pc + 3) lv st F2) : jJ X g res ws a b pc lv (.int x :: st) (if x = 0 then F1 else F2) := by
  obtain ⟨p, l, e, R, s, m, args, below, meth, c, Q, A, nL⟩ := X
  obtain ⟨hx, hb, hml, hown, hts, hK, hA, hAb, hKS, hlk, rfl, hbs, rfl⟩ := C
  intro hF H locs ls hP hD hS hl
  exact lv_if_eq hx hb d ht (fun h => kt (by rw [if_pos h] at hF; exact hF) H locs ls hP hD hS hl) (fun h => kf (by rw [if_neg h] at hF; exact hF) H locs ls hP hD hS hl)
theorem r_icmp_ne {x y : Int32} {off : Int} (tgt : Nat) (C : kC X g cc own rm nn) (d : decode cc pc = .ok (.if_icmp .ne off, 3)) (ht : (pc : Int) + off = (tgt : Int)) (kt : jJ X g res ws a b tgt lv st F2) (kf : jJ X g res ws a b (pc + 3) lv st F1) : jJ X g res ws a b pc lv (.int y :: .int x :: st) (if x = y then F1 else F2) := by
  obtain ⟨p, l, e, R, s, m, args, below, meth, c, Q, A, nL⟩ := X
  obtain ⟨hx, hb, hml, hown, hts, hK, hA, hAb, hKS, hlk, rfl, hbs, rfl⟩ := C
  intro hF H locs ls hP hD hS hl
  exact lv_icmp_ne hx hb d ht (fun h => kt (by rw [if_neg h] at hF; exact hF) H locs ls hP hD hS hl) (fun h => kf (by rw [if_pos h] at hF; exact hF) H locs ls hP hD hS hl)
theorem r_if_ne {x : Int32} {off : Int} (tgt : Nat) (C : kC X g cc own rm nn) (d : decode cc pc = .ok (.ifCond .ne off, 3)) (ht : (pc : Int) + off = (tgt : Int)) (kt : jJ X g res ws a b tgt lv st F2) (kf : jJ X g res ws a b (pc + 3) lv st F1) : jJ X g res ws a b pc lv (.int x :: st) (if x = 0 then F1 else F2) := by
  obtain ⟨p, l, e, R, s, m, args, below, meth, c, Q, A, nL⟩ := X
  obtain ⟨hx, hb, hml, hown, hts, hK, hA, hAb, hKS, hlk, rfl, hbs, rfl⟩ := C
  intro hF H locs ls hP hD hS hl
  exact lv_if_ne hx hb d ht (fun h => kt (by rw [if_neg h] at hF; exact hF) H locs ls hP hD hS hl) (fun h => kf (by rw [if_pos h] at hF; exact hF) H locs ls hP hD hS hl)
theorem r_icmp_lt {x y : Int32} {off : Int} (tgt : Nat) (C : kC X g cc own rm nn) (d : decode cc pc = .ok (.if_icmp .lt off, 3)) (ht : (pc : Int) + off = (tgt : Int)) (kt : jJ X g res ws a b tgt lv st F1) (kf : jJ X g res ws a b (pc + 3) lv st F2) : jJ X g res ws a b pc lv (.int y :: .int x :: st) (if x < y then F1 else F2) := by
  obtain ⟨p, l, e, R, s, m, args, below, meth, c, Q, A, nL⟩ := X
  obtain ⟨hx, hb, hml, hown, hts, hK, hA, hAb, hKS, hlk, rfl, hbs, rfl⟩ := C
  intro hF H locs ls hP hD hS hl
  exact lv_icmp_lt hx hb d ht (fun h => kt (by rw [if_pos h] at hF; exact hF) H locs ls hP hD hS hl) (fun h => kf (by rw [if_neg h] at hF; exact hF) H locs ls hP hD hS hl)
theorem r_if_lt {x : Int32} {off : Int} (tgt : Nat) (C : kC X g cc own rm nn) (d : decode cc pc = .ok (.ifCond .lt off, 3)) (ht : (pc : Int) + off = (tgt : Int)) (kt : jJ X g res ws a b tgt lv st F1) (kf : jJ X g res ws a b (pc + 3) lv st F2) : jJ X g res ws a b pc lv (.int x :: st) (if x < 0 then F1 else F2) := by
  obtain ⟨p, l, e, R, s, m, args, below, meth, c, Q, A, nL⟩ := X
  obtain ⟨hx, hb, hml, hown, hts, hK, hA, hAb, hKS, hlk, rfl, hbs, rfl⟩ := C
  intro hF H locs ls hP hD hS hl
  exact lv_if_lt hx hb d ht (fun h => kt (by rw [if_pos h] at hF; exact hF) H locs ls hP hD hS hl) (fun h => kf (by rw [if_neg h] at hF; exact hF) H locs ls hP hD hS hl)
theorem r_icmp_ge {x y : Int32} {off : Int} (tgt : Nat) (C : kC X g cc own rm nn) (d : decode cc pc = .ok (.if_icmp .ge off, 3)) (ht : (pc : Int) + off = (tgt : Int)) (kt : jJ X g res ws a b tgt lv st F1) (kf : jJ X g res ws a b (pc + 3) lv st F2) : jJ X g res ws a b pc lv (.int y :: .int x :: st) (if y ≤ x then F1 else F2) := by
  obtain ⟨p, l, e, R, s, m, args, below, meth, c, Q, A, nL⟩ := X
  obtain ⟨hx, hb, hml, hown, hts, hK, hA, hAb, hKS, hlk, rfl, hbs, rfl⟩ := C
  intro hF H locs ls hP hD hS hl
  exact lv_icmp_ge hx hb d ht (fun h => kt (by rw [if_pos h] at hF; exact hF) H locs ls hP hD hS hl) (fun h => kf (by rw [if_neg h] at hF; exact hF) H locs ls hP hD hS hl)
theorem r_if_ge {x : Int32} {off : Int} (tgt : Nat) (C : kC X g cc own rm nn) (d : decode cc pc = .ok (.ifCond .ge off, 3)) (ht : (pc : Int) + off = (tgt : Int)) (kt : jJ X g res ws a b tgt lv st F1) (kf : jJ X g res ws a b (pc + 3) lv st F2) : jJ X g res ws a b pc lv (.int x :: st) (if 0 ≤ x then F1 else F2) := by
  obtain ⟨p, l, e, R, s, m, args, below, meth, c, Q, A, nL⟩ := X
  obtain ⟨hx, hb, hml, hown, hts, hK, hA, hAb, hKS, hlk, rfl, hbs, rfl⟩ := C
  intro hF H locs ls hP hD hS hl
  exact lv_if_ge hx hb d ht (fun h => kt (by rw [if_pos h] at hF; exact hF) H locs ls hP hD hS hl) (fun h => kf (by rw [if_neg h] at hF; exact hF) H locs ls hP hD hS hl)
theorem r_icmp_gt {x y : Int32} {off : Int} (tgt : Nat) (C : kC X g cc own rm nn) (d : decode cc pc = .ok (.if_icmp .gt off, 3)) (ht : (pc : Int) + off = (tgt : Int)) (kt : jJ X g res ws a b tgt lv st F1) (kf : jJ X g res ws a b (pc + 3) lv st F2) : jJ X g res ws a b pc lv (.int y :: .int x :: st) (if y < x then F1 else F2) := by
  obtain ⟨p, l, e, R, s, m, args, below, meth, c, Q, A, nL⟩ := X
  obtain ⟨hx, hb, hml, hown, hts, hK, hA, hAb, hKS, hlk, rfl, hbs, rfl⟩ := C
  intro hF H locs ls hP hD hS hl
  exact lv_icmp_gt hx hb d ht (fun h => kt (by rw [if_pos h] at hF; exact hF) H locs ls hP hD hS hl) (fun h => kf (by rw [if_neg h] at hF; exact hF) H locs ls hP hD hS hl)
theorem r_if_gt {x : Int32} {off : Int} (tgt : Nat) (C : kC X g cc own rm nn) (d : decode cc pc = .ok (.ifCond .gt off, 3)) (ht : (pc : Int) + off = (tgt : Int)) (kt : jJ X g res ws a b tgt lv st F1) (kf : jJ X g res ws a b (pc + 3) lv st F2) : jJ X g res ws a b pc lv (.int x :: st) (if 0 < x then F1 else F2) := by
  obtain ⟨p, l, e, R, s, m, args, below, meth, c, Q, A, nL⟩ := X
  obtain ⟨hx, hb, hml, hown, hts, hK, hA, hAb, hKS, hlk, rfl, hbs, rfl⟩ := C
  intro hF H locs ls hP hD hS hl
  exact lv_if_gt hx hb d ht (fun h => kt (by rw [if_pos h] at hF; exact hF) H locs ls hP hD hS hl) (fun h => kf (by rw [if_neg h] at hF; exact hF) H locs ls hP hD hS hl)
theorem r_icmp_le {x y : Int32} {off : Int} (tgt : Nat) (C : kC X g cc own rm nn) (d : decode cc pc = .ok (.if_icmp .le off, 3)) (ht : (pc : Int) + off = (tgt : Int)) (kt : jJ X g res ws a b tgt lv st F1) (kf : jJ X g res ws a b (pc + 3) lv st F2) : jJ X g res ws a b pc lv (.int y :: .int x :: st) (if x ≤ y then F1 else F2) := by
  obtain ⟨p, l, e, R, s, m, args, below, meth, c, Q, A, nL⟩ := X
  obtain ⟨hx, hb, hml, hown, hts, hK, hA, hAb, hKS, hlk, rfl, hbs, rfl⟩ := C
  intro hF H locs ls hP hD hS hl
  exact lv_icmp_le hx hb d ht (fun h => kt (by rw [if_pos h] at hF; exact hF) H locs ls hP hD hS hl) (fun h => kf (by rw [if_neg h] at hF; exact hF) H locs ls hP hD hS hl)
theorem r_if_le {x : Int32} {off : Int} (tgt : Nat) (C : kC X g cc own rm nn) (d : decode cc pc = .ok (.ifCond .le off, 3)) (ht : (pc : Int) + off = (tgt : Int)) (kt : jJ X g res ws a b tgt lv st F1) (kf : jJ X g res ws a b (pc + 3) lv st F2) : jJ X g res ws a b pc lv (.int x :: st) (if x ≤ 0 then F1 else F2) := by
  obtain ⟨p, l, e, R, s, m, args, below, meth, c, Q, A, nL⟩ := X
  obtain ⟨hx, hb, hml, hown, hts, hK, hA, hAb, hKS, hlk, rfl, hbs, rfl⟩ := C
  intro hF H locs ls hP hD hS hl
  exact lv_if_le hx hb d ht (fun h => kt (by rw [if_pos h] at hF; exact hF) H locs ls hP hD hS hl) (fun h => kf (by rw [if_neg h] at hF; exact hF) H locs ls hP hD hS hl)
theorem r_ifb_eq {x : Bool} {off : Int} (tgt : Nat) (C : kC X g cc own rm nn) (d : decode cc pc = .ok (.ifCond .eq off, 3)) (ht : (pc : Int) + off = (tgt : Int)) (kt : jJ X g res ws a b tgt lv st F2) (kf : jJ X g res ws a b (pc + 3) lv st F1) : jJ X g res ws a b pc lv (.int (b2 x) :: st) (if x = true then F1 else F2) := by
  cases x with
  | true => exact fun hF => r_if_eq tgt C d ht kt kf (F1 := F2) (F2 := F1) (by rw [if_neg (by decide)]; rw [if_pos rfl] at hF; exact hF)
  | false => exact fun hF => r_if_eq tgt C d ht kt kf (F1 := F2) (F2 := F1) (by rw [if_pos (by decide)]; rw [if_neg (by decide)] at hF; exact hF)
theorem r_ifb_ne {x : Bool} {off : Int} (tgt : Nat) (C : kC X g cc own rm nn) (d : decode cc pc = .ok (.ifCond .ne off, 3)) (ht : (pc : Int) + off = (tgt : Int)) (kt : jJ X g res ws a b tgt lv st F1) (kf : jJ X g res ws a b (pc + 3) lv st F2) : jJ X g res ws a b pc lv (.int (b2 x) :: st) (if x = true then F1 else F2) := by
  cases x with
  | true => exact fun hF => r_if_ne tgt C d ht kt kf (F1 := F2) (F2 := F1) (by rw [if_neg (by decide)]; rw [if_pos rfl] at hF; exact hF)
  | false => exact fun hF => r_if_ne tgt C d ht kt kf (F1 := F2) (F2 := F1) (by rw [if_pos (by decide)]; rw [if_neg (by decide)] at hF; exact hF)
theorem r_goto {off : Int} (tgt : Nat) (C : kC X g cc own rm nn) (d : decode cc pc = .ok (.goto off, 3)) (ht : (pc : Int) + off = (tgt : Int)) (kk : jJ X g res ws a b tgt lv st F) : jJ X g res ws a b pc lv st F := by
  obtain ⟨p, l, e, R, s, m, args, below, meth, c, Q, A, nL⟩ := X
  obtain ⟨hx, hb, hml, hown, hts, hK, hA, hAb, hKS, hlk, rfl, hbs, rfl⟩ := C
  intro hF H locs ls hP hD hS hl
  exact lv_goto hx hb d ht (kk hF H locs ls hP hD hS hl)
theorem r_case {c : Prop} [Decidable c] (h1 : c → jJ X g res ws a b pc lv st F1) (h2 : ¬ c → jJ X g res ws a b pc lv st F2) : jJ X g res ws a b pc lv st (if c then F1 else F2) := by
  intro hF
  by_cases h : c
  · rw [if_pos h] at hF; exact h1 h hF
  · rw [if_neg h] at hF; exact h2 h hF
theorem r_tabIn {dflt lo hi : Int} {offs : Array Int} {len : Nat} {x v : Int32} {off : Int} (tgt : Nat) (C : kC X g cc own rm nn) (d : decode cc pc = .ok (.tableswitch dflt lo hi offs, len)) (hv : x = v) (h1 : ¬ v.toInt < lo) (h2 : ¬ hi < v.toInt) (ho : offs[(v.toInt - lo).toNat]? = some off) (ht : (pc : Int) + off = (tgt : Int)) (kk : jJ X g res ws a b tgt lv st F) : jJ X g res ws a b pc lv (.int x :: st) F := by
  obtain ⟨p, l, e, R, s, m, args, below, meth, c, Q, A, nL⟩ := X
  obtain ⟨hx, hb, hml, hown, hts, hK, hA, hAb, hKS, hlk, rfl, hbs, rfl⟩ := C
  intro hF H locs ls hP hD hS hl
  subst hv
  exact lv_tableIn hx hb d h1 h2 ho ht (kk hF H locs ls hP hD hS hl)
theorem r_tabOut {dflt lo hi : Int} {offs : Array Int} {len : Nat} {x : Int32} (tgt : Nat) (C : kC X g cc own rm nn) (d : decode cc pc = .ok (.tableswitch dflt lo hi offs, len)) (h : x.toInt < lo ∨ hi < x.toInt) (ht : (pc : Int) + dflt = (tgt : Int)) (kk : jJ X g res ws a b tgt lv st F) : jJ X g res ws a b pc lv (.int x :: st) F := by
  obtain ⟨p, l, e, R, s, m, args, below, meth, c, Q, A, nL⟩ := X
  obtain ⟨hx, hb, hml, hown, hts, hK, hA, hAb, hKS, hlk, rfl, hbs, rfl⟩ := C
  intro hF H locs ls hP hD hS hl
  exact lv_tableOut hx hb d h ht (kk hF H locs ls hP hD hS hl)
theorem r_look {dflt : Int} {ps : Array (Int × Int)} {len : Nat} {x : Int32} {off : Int} (tgt : Nat) (C : kC X g cc own rm nn) (d : decode cc pc = .ok (.lookupswitch dflt ps, len)) (hp : (ps.toList.zip (ps.toList.drop 1)).all (fun (a, next) => a.1 < next.1) = true) (ho : Op.lookupswitch.offset ps.toList dflt x.toInt = off) (ht : (pc : Int) + off = (tgt : Int)) (kk : jJ X g res ws a b tgt lv st F) : jJ X g res ws a b pc lv (.int x :: st) F := by
  obtain ⟨p, l, e, R, s, m, args, below, meth, c, Q, A, nL⟩ := X
  obtain ⟨hx, hb, hml, hown, hts, hK, hA, hAb, hKS, hlk, rfl, hbs, rfl⟩ := C
  intro hF H locs ls hP hD hS hl
  exact lv_lookup hx hb d hp ho ht (kk hF H locs ls hP hD hS hl)
theorem r_lookIn {dflt : Int} {ps : Array (Int × Int)} {len : Nat} {x v : Int32} {off : Int} (tgt : Nat) (C : kC X g cc own rm nn) (d : decode cc pc = .ok (.lookupswitch dflt ps, len)) (hv : x = v) (hp : (ps.toList.zip (ps.toList.drop 1)).all (fun (a, next) => a.1 < next.1) = true) (ho : Op.lookupswitch.offset ps.toList dflt v.toInt = off) (ht : (pc : Int) + off = (tgt : Int)) (kk : jJ X g res ws a b tgt lv st F) : jJ X g res ws a b pc lv (.int x :: st) F := by
  subst hv
  exact r_look tgt C d hp ho ht kk
theorem r_tabDef {dflt lo hi : Int} {offs : Array Int} {len : Nat} {x : Int32} (tgt : Nat) (C : kC X g cc own rm nn) (d : decode cc pc = .ok (.tableswitch dflt lo hi offs, len)) (hhi : hi = lo + offs.size - 1) (h : ∀ j, j < offs.size → offs[j]? = some dflt ∨ ¬ x.toInt = lo + (j : Int)) (ht : (pc : Int) + dflt = (tgt : Int)) (kk : jJ X g res ws a b tgt lv st F) : jJ X g res ws a b pc lv (.int x :: st) F := by
  by_cases h1 : x.toInt < lo
  · exact r_tabOut tgt C d (Or.inl h1) ht kk
  · by_cases h2 : hi < x.toInt
    · exact r_tabOut tgt C d (Or.inr h2) ht kk
    · have hj : (x.toInt - lo).toNat < offs.size := by omega
      rcases h _ hj with h3 | h3
      · exact r_tabIn (v := x) tgt C d rfl h1 h2 h3 ht kk
      · exact absurd (by omega) h3
theorem r_get {C' : String} {T : u_T} {N ci index adr k : Nat} {fs : List Value} {v : Value} (C : kC X g cc own rm nn) (hin : ∀ w ∈ u_ws C' T N, w ∈ kTb) (hl' : Cond.fieldLink own index C' (T k).2.1 (T k).2.2.1 ∈ kTb) (q0 : Nat) (he : ws[q0]? = some (adr, .inr (ci, fs))) (hc : vwCl[ci]? = some (C', T, N)) (hk : k < N) (hT : (T k).1 = C') (hv : fs[k]? = some v) (d : decode cc pc = .ok (.getfield index, 3)) (kk : jJ X g res ws a b (pc + 3) lv (v :: st) F) : jJ X g res ws a b pc lv (.ref adr :: st) F := by
  obtain ⟨p, l, e, R, s, m, args, below, meth, c, Q, A, nL⟩ := X
  obtain ⟨hx, hb, hml, hown, hts, hK, hA, hAb, hKS, hlk, rfl, hbs, rfl⟩ := C
  intro hF H locs ls hP hD hS hl
  exact va_get hx hb hts hin hown hK hP q0 he hc k hk (hts _ hl') (by rw [hT]; exact fun _ h => h) hv d (kk hF H locs ls hP hD hS hl)
theorem r_getN {C' host : String} {T : u_T} {N ci index adr k : Nat} {fs : List Value} {v : Value} (C : kC X g cc own rm nn) (hin : ∀ w ∈ u_ws C' T N, w ∈ kTb) (hl' : (own, index, C', (T k).2.1, (T k).2.2.1, host) ∈ kNF) (q0 : Nat) (he : ws[q0]? = some (adr, .inr (ci, fs))) (hc : vwCl[ci]? = some (C', T, N)) (hk : k < N) (hT : (T k).1 = C') (hv : fs[k]? = some v) (d : decode cc pc = .ok (.getfield index, 3)) (kk : jJ X g res ws a b (pc + 3) lv (v :: st) F) : jJ X g res ws a b pc lv (.ref adr :: st) F := by
  obtain ⟨p, l, e, R, s, m, args, below, meth, c, Q, A, nL⟩ := X
  obtain ⟨hx, hb, hml, hown, hts, hK, hA, hAb, hKS, hlk, rfl, hbs, rfl⟩ := C
  intro hF H locs ls hP hD hS hl
  exact va_getN (host := host) hx hb hts hin hown hK hP q0 he hc k hk (va_Nw.use rfl (hKS.1 _ hl')) (by rw [hT]; exact fun _ h => h) hv d (kk hF H locs ls hP hD hS hl)
theorem r_put {σ : Type} {wf : σ → va_W} {S' : σ} {G : σ → Option ρ} {C' : String} {T : u_T} {N ci index adr k : Nat} {fs : List Value} {v : Value} {ty : FieldType} (C : kC X g cc own rm nn) (hin : ∀ w ∈ u_ws C' T N, w ∈ kTb) (ty0 : Nat → FieldType) (hty : ∀ k, k < N → parseFieldDescriptor (T k).2.2.1 = some (ty0 k)) (hnm : ∀ a, a < N → ∀ b, b < N → a ≠ b → (T a).2.1 ≠ (T b).2.1) (hl' : Cond.fieldLink own index C' (T k).2.1 (T k).2.2.1 ∈ kTb) (q0 : Nat) (he : ws[q0]? = some (adr, .inr (ci, fs))) (hc : vwCl[ci]? = some (C', T, N)) (hk : k < N) (hT : (T k).1 = C') (hfin : (T k).2.2.2 = false) (hd : parseFieldDescriptor (T k).2.2.1 = some ty) (hn : narrow ty v = v) (hfit : fits ty v = true) (hlen : k < fs.length) (hw : ws.set q0 (adr, .inr (ci, fs.set k v)) = wf S') (d : decode cc pc = .ok (.putfield index, 3)) (kk : ∀ S1, jJ X g res (wf S1) a b (pc + 3) lv st (G S1)) : jJ X g res ws a b pc lv (v :: .ref adr :: st) (lt S' G) := by
  obtain ⟨p, l, e, R, s, m, args, below, meth, c, Q, A, nL⟩ := X
  obtain ⟨hx, hb, hml, hown, hts, hK, hA, hAb, hKS, hlk, rfl, hbs, rfl⟩ := C
  intro hF H locs ls hP hD hS hl
  exact va_put hx hb hts hin ty0 hty hnm hown hK hP hD hS q0 he hc k hk (hts _ hl') (by rw [hT]; exact fun _ h => h) hfin hd hn hfit hlen d (fun H1 locs1 hP1 hD1 hS1 => kk S' hF H1 locs1 ls (by rw [← hw]; exact hP1) (by rw [← hw]; exact hD1) hS1 hl)
theorem r_putN {σ : Type} {wf : σ → va_W} {S' : σ} {G : σ → Option ρ} {C' host : String} {T : u_T} {N ci index adr k : Nat} {fs : List Value} {v : Value} {ty : FieldType} (C : kC X g cc own rm nn) (hin : ∀ w ∈ u_ws C' T N, w ∈ kTb) (ty0 : Nat → FieldType) (hty : ∀ k, k < N → parseFieldDescriptor (T k).2.2.1 = some (ty0 k)) (hnm : ∀ a, a < N → ∀ b, b < N → a ≠ b → (T a).2.1 ≠ (T b).2.1) (hl' : (own, index, C', (T k).2.1, (T k).2.2.1, host) ∈ kNF) (q0 : Nat) (he : ws[q0]? = some (adr, .inr (ci, fs))) (hc : vwCl[ci]? = some (C', T, N)) (hk : k < N) (hT : (T k).1 = C') (hfin : (T k).2.2.2 = false) (hd : parseFieldDescriptor (T k).2.2.1 = some ty) (hn : narrow ty v = v) (hfit : fits ty v = true) (hlen : k < fs.length) (hw : ws.set q0 (adr, .inr (ci, fs.set k v)) = wf S') (d : decode cc pc = .ok (.putfield index, 3)) (kk : ∀ S1, jJ X g res (wf S1) a b (pc + 3) lv st (G S1)) : jJ X g res ws a b pc lv (v :: .ref adr :: st) (lt S' G) := by
  obtain ⟨p, l, e, R, s, m, args, below, meth, c, Q, A, nL⟩ := X
  obtain ⟨hx, hb, hml, hown, hts, hK, hA, hAb, hKS, hlk, rfl, hbs, rfl⟩ := C
  intro hF H locs ls hP hD hS hl
  exact va_putN (host := host) hx hb hts hin ty0 hty hnm hown hK hP hD hS q0 he hc k hk (va_Nw.use rfl (hKS.1 _ hl')) (by rw [hT]; exact fun _ h => h) hfin hd hn hfit hlen d (fun H1 locs1 hP1 hD1 hS1 => kk S' hF H1 locs1 ls (by rw [← hw]; exact hP1) (by rw [← hw]; exact hD1) hS1 hl)
theorem r_iald {adr n : Nat} {cA : ClassId} {f : Nat → Int32} {i : Int32} (C : kC X g cc own rm nn) (q0 : Nat) (he : ws[q0]? = some (adr, .inl (cA, n, .inl f))) (ht : (kT g)[0]? = some (cA, .int)) (d : decode cc pc = .ok (.iaload, 1)) (kk : jJ X g res ws a b (pc + 1) lv (.int (f i.toNatClampNeg) :: st) F) : jJ X g res ws a b pc lv (.int i :: .ref adr :: st) (chk i n F) := by
  obtain ⟨p, l, e, R, s, m, args, below, meth, c, Q, A, nL⟩ := X
  obtain ⟨hx, hb, hml, hown, hts, hK, hA, hAb, hKS, hlk, rfl, hbs, rfl⟩ := C
  intro hF H locs ls hP hD hS hl
  obtain ⟨hi, hF⟩ := chk_in hF
  exact va_iald hx hb hK hP q0 0 he ht hi d (kk hF H locs ls hP hD hS hl)
theorem r_bald {adr n : Nat} {cA : ClassId} {f : Nat → Int32} {i : Int32} (C : kC X g cc own rm nn) (q0 : Nat) (he : ws[q0]? = some (adr, .inl (cA, n, .inl f))) (ht : (kT g)[1]? = some (cA, .byte)) (d : decode cc pc = .ok (.baload, 1)) (kk : jJ X g res ws a b (pc + 1) lv (.int (f i.toNatClampNeg) :: st) F) : jJ X g res ws a b pc lv (.int i :: .ref adr :: st) (chk i n F) := by
  obtain ⟨p, l, e, R, s, m, args, below, meth, c, Q, A, nL⟩ := X
  obtain ⟨hx, hb, hml, hown, hts, hK, hA, hAb, hKS, hlk, rfl, hbs, rfl⟩ := C
  intro hF H locs ls hP hD hS hl
  obtain ⟨hi, hF⟩ := chk_in hF
  exact va_bald hx hb hK hP q0 1 he ht hi d (kk hF H locs ls hP hD hS hl)
theorem r_zald {adr n : Nat} {cA : ClassId} {f : Nat → Int32} {i : Int32} (C : kC X g cc own rm nn) (q0 : Nat) (he : ws[q0]? = some (adr, .inl (cA, n, .inl f))) (ht : (kT g)[2]? = some (cA, .boolean)) (d : decode cc pc = .ok (.baload, 1)) (kk : jJ X g res ws a b (pc + 1) lv (.int (f i.toNatClampNeg) :: st) F) : jJ X g res ws a b pc lv (.int i :: .ref adr :: st) (chk i n F) := by
  obtain ⟨p, l, e, R, s, m, args, below, meth, c, Q, A, nL⟩ := X
  obtain ⟨hx, hb, hml, hown, hts, hK, hA, hAb, hKS, hlk, rfl, hbs, rfl⟩ := C
  intro hF H locs ls hP hD hS hl
  obtain ⟨hi, hF⟩ := chk_in hF
  exact va_zald hx hb hK hP q0 2 he ht hi d (kk hF H locs ls hP hD hS hl)
theorem r_iast {σ : Type} {wf : σ → va_W} {S' : σ} {G : σ → Option ρ} {adr n : Nat} {cA : ClassId} {f : Nat → Int32} {i x : Int32} (C : kC X g cc own rm nn) (q0 : Nat) (he : ws[q0]? = some (adr, .inl (cA, n, .inl f))) (ht : (kT g)[0]? = some (cA, .int)) (hw : ws.set q0 (adr, .inl (cA, n, .inl (upd f i.toNatClampNeg x))) = wf S') (d : decode cc pc = .ok (.iastore, 1)) (kk : ∀ S1, jJ X g res (wf S1) a b (pc + 1) lv st (G S1)) : jJ X g res ws a b pc lv (.int x :: .int i :: .ref adr :: st) (chk i n (lt S' G)) := by
  obtain ⟨p, l, e, R, s, m, args, below, meth, c, Q, A, nL⟩ := X
  obtain ⟨hx, hb, hml, hown, hts, hK, hA, hAb, hKS, hlk, rfl, hbs, rfl⟩ := C
  intro hF H locs ls hP hD hS hl
  obtain ⟨hi, hF⟩ := chk_in hF
  exact va_iast hx hb hK hP hD hS q0 0 he ht hi d (fun H1 locs1 hP1 hD1 hS1 => kk S' hF H1 locs1 ls (by rw [← hw]; exact hP1) (by rw [← hw]; exact hD1) hS1 hl)
theorem r_bast {σ : Type} {wf : σ → va_W} {S' : σ} {G : σ → Option ρ} {adr n : Nat} {cA : ClassId} {f : Nat → Int32} {i x : Int32} (C : kC X g cc own rm nn) (q0 : Nat) (he : ws[q0]? = some (adr, .inl (cA, n, .inl f))) (ht : (kT g)[1]? = some (cA, .byte)) (hw : ws.set q0 (adr, .inl (cA, n, .inl (upd f i.toNatClampNeg (vp_nar .byte x)))) = wf S') (d : decode cc pc = .ok (.bastore, 1)) (kk : ∀ S1, jJ X g res (wf S1) a b (pc + 1) lv st (G S1)) : jJ X g res ws a b pc lv (.int x :: .int i :: .ref adr :: st) (chk i n (lt S' G)) := by
  obtain ⟨p, l, e, R, s, m, args, below, meth, c, Q, A, nL⟩ := X
  obtain ⟨hx, hb, hml, hown, hts, hK, hA, hAb, hKS, hlk, rfl, hbs, rfl⟩ := C
  intro hF H locs ls hP hD hS hl
  obtain ⟨hi, hF⟩ := chk_in hF
  exact va_bast hx hb hK hP hD hS q0 1 he ht hi d (fun H1 locs1 hP1 hD1 hS1 => kk S' hF H1 locs1 ls (by rw [← hw]; exact hP1) (by rw [← hw]; exact hD1) hS1 hl)
theorem r_zast {σ : Type} {wf : σ → va_W} {S' : σ} {G : σ → Option ρ} {adr n : Nat} {cA : ClassId} {f : Nat → Int32} {i x : Int32} (C : kC X g cc own rm nn) (q0 : Nat) (he : ws[q0]? = some (adr, .inl (cA, n, .inl f))) (ht : (kT g)[2]? = some (cA, .boolean)) (hw : ws.set q0 (adr, .inl (cA, n, .inl (upd f i.toNatClampNeg (vp_nar .boolean x)))) = wf S') (d : decode cc pc = .ok (.bastore, 1)) (kk : ∀ S1, jJ X g res (wf S1) a b (pc + 1) lv st (G S1)) : jJ X g res ws a b pc lv (.int x :: .int i :: .ref adr :: st) (chk i n (lt S' G)) := by
  obtain ⟨p, l, e, R, s, m, args, below, meth, c, Q, A, nL⟩ := X
  obtain ⟨hx, hb, hml, hown, hts, hK, hA, hAb, hKS, hlk, rfl, hbs, rfl⟩ := C
  intro hF H locs ls hP hD hS hl
  obtain ⟨hi, hF⟩ := chk_in hF
  exact va_zast hx hb hK hP hD hS q0 2 he ht hi d (fun H1 locs1 hP1 hD1 hS1 => kk S' hF H1 locs1 ls (by rw [← hw]; exact hP1) (by rw [← hw]; exact hD1) hS1 hl)
theorem r_alen {adr t0 : Nat} {cA : ClassId} {x : vp_A} {ty : FieldType} {v : Int32} (C : kC X g cc own rm nn) (q0 : Nat) (he : ws[q0]? = some (adr, .inl (cA, x))) (ht : (kT g)[t0]? = some (cA, ty)) (hv : Int32.ofNat x.1 = v) (d : decode cc pc = .ok (.arraylength, 1)) (kk : jJ X g res ws a b (pc + 1) lv (.int v :: st) F) : jJ X g res ws a b pc lv (.ref adr :: st) F := by
  obtain ⟨p, l, e, R, s, m, args, below, meth, c, Q, A, nL⟩ := X
  obtain ⟨hx, hb, hml, hown, hts, hK, hA, hAb, hKS, hlk, rfl, hbs, rfl⟩ := C
  intro hF H locs ls hP hD hS hl
  exact va_alen hx hb hK hP q0 t0 he ht hv d (kk hF H locs ls hP hD hS hl)
/-- what the tables say of a method: code, number of its arguments -/
def kY (y : MethodName) (bytes : ByteArray) (maxL : Nat) (ret : Option FieldType) (n : Nat) : Prop := Cond.initialized y.cls ∈ kTb ∧ Cond.code y bytes maxL ret ∈ kTb ∧ (y.cls ≠ "java/lang/invoke/MethodHandle" ∧ y.cls ≠ "java/lang/invoke/VarHandle" ∧ (parseMethodDescriptor y.desc).map (fun d => d.parameters.length) = some n)
theorem k_ret {p : Program} {l : Launch} {e : Env} {R : Room} {s : State} {m : MethodId} {args : Array Value} {below : List Frame} {meth : Method} {c : Code} {H : Heap} {locs : List Loc} {Q : State → Prop} {A : Nat → Prop} {ls : Array Slot} {st0 : List Value} {w0 w1 : va_W} {o : Option Value} {av : Array Value} {mc ms : Nat} (hr : va_Run p l e R s m args below meth c H locs a b mc ms (F0 m pc ls st0) st (kQ g w0 w1 H.size o av) (va_A w0 H.size)) (hS : va_S A s.heap H locs) (hF : ∀ q, va_A w0 H.size q → A q)
    (kk : ∀ (H1 : Heap) (locs1 : List Loc), va_P g.1 vwCl w1 H1 → va_D (va_A w0 H.size) w1 → va_S A s.heap H1 locs1 → (∀ q : Nat, q < H.size → ¬ va_A w0 H.size q → H1[q]? = H[q]?) → W p l e R s m args below meth c H1 locs1 (a + mc) (b + ms) Q (F0 m (pc + 3) ls (o.toList ++ st))) : W p l e R s m args below meth c H locs a b Q (F0 m pc ls st0) := by
  intro T hT X
  obtain ⟨v, st₀, t, T', L, h0, X', hL, e1, e2, ⟨⟨hv, hP1, hD1⟩, hz, hk⟩, sg⟩ := hr T hT X
  cases hv
  rw [h0] at hz hk
  obtain ⟨t2, a1, b1⟩ := kk T'.heap (locs ++ L) (by rw [e1]; exact hP1) hD1
    ⟨Nat.le_trans hS.1 (by rw [e1]; exact hz), fun q h1 h2 => by rw [e1, hk q (Nat.lt_of_lt_of_le h1 hS.1) (fun z => h2 (hF q z))]; exact hS.2.1 q h1 h2, fun q hq => by
      rcases List.mem_append.mp hq with h | h
      · exact hS.2.2 q h
      · exact hF _ (hL q h)⟩ (fun q h1 h2 => by rw [e1]; exact hk q h1 h2) T' rfl X'
  exact ⟨t2, sg t2 a1, b1⟩
theorem kPre_of {s U : State} {A : Nat → Prop} {H : Heap} {locs : List Loc} {w : va_W} (hK : va_K g.1 vwCl (kT g) s) (hAb : ∀ q, A q → kBs g q) (hKS : kS g s s.heap) (hbs : g.2.2.1 ≤ s.heap.size) (hP : va_P g.1 vwCl w H) (hD : va_D A w) (hS : va_S A s.heap H locs) (hU : U.heap = H) (hW : s.WarmedH U.vm) : kPre g w H.size U := by
  refine ⟨by rw [hU], by rw [hU]; exact hP, va_K.moved hW.alike hK, hD.weaken (fun _ q _ h => hAb q.1 h), Nat.le_trans hbs hS.1, ?_⟩
  rw [hU]
  exact hKS.warm hW (fun q h1 h2 => hS.2.1 q h1 (fun h => h2 (hAb q h)))
theorem kFree {A : Nat → Prop} {s : State} {H : Heap} {locs : List Loc} {w : va_W} (hA : ∀ q, s.heap.size ≤ q → A q) (hD : va_D A w) (hS : va_S A s.heap H locs) : ∀ q, va_A w H.size q → A q := by
  intro q h
  rcases h with ⟨k, e, h⟩ | h
  · exact hD.2 k _ h
  · exact hA q (Nat.le_trans hS.1 h)
theorem r_callV {α : Type} {fN : Option α} {ov : α → Option Value} {wv : α → va_W} {G : α → Option ρ} {y : MethodName} {bytes : ByteArray} {maxL n index adr ci N mc ms : Nat} {ret : Option FieldType} {rm' : Room} {As fs st0 : List Value} {T : u_T} (C : kC X g cc own rm nn) (hM : ∀ r, fN = some r → ∀ l, kM l y bytes maxL ret rm' g (.ref adr :: As) ws (wv r) (ov r) mc ms) (hy : kY y bytes maxL ret n) (hi : Cond.instanceMethod y ∈ kTb) (hs : Cond.selects y.cls y y ∈ kTb) (h1 : Cond.methodLink own index y ∈ kTb) (hn : As.length = n) (hR : rm'.frames + 1 ≤ rm.frames ∧ 8 + (maxL + 11) + rm'.locals ≤ rm.locals) (hrc : rm'.cells = mc) (hrs : rm'.slots = ms) (hcs : a + mc ≤ rm.cells ∧ b + ms ≤ rm.slots) (q0 : Nat) (he : ws[q0]? = some (adr, .inr (ci, fs))) (hc : vwCl[ci]? = some (y.cls, T, N)) (hst : st0 = As.reverse ++ .ref adr :: st) (hcat : (st.map fun v => v.category).sum ≤ 8) (d : decode cc pc = .ok (.invokevirtual index, 3)) (kk : ∀ r, jJ X g res (wv r) (a + mc) (b + ms) (pc + 3) lv ((ov r).toList ++ st) (G r)) : jJ X g res ws a b pc lv st0 (bp fN G) := by
  obtain ⟨p, l, e, R, s, m, args, below, meth, c, Q, A, nL⟩ := X
  obtain ⟨hx, hb, hml, hown, hts, hK, hA, hAb, hKS, hlk, rfl, hbs, rfl⟩ := C
  intro hF H locs ls hP hD hS hl
  obtain ⟨r, hr, hF⟩ : ∃ r, fN = some r ∧ G r = some res := by
    cases hfN : fN with
    | none => rw [hfN] at hF; cases hF
    | some r => rw [hfN] at hF; exact ⟨r, rfl, hF⟩
  have hFr := kFree hA hD hS
  obtain ⟨y1, y2, y3⟩ := hy
  subst hst
  refine k_ret (va_runV (As := As) (rest := st) ⟨hx, hb, hml, hown, hts⟩ (hM r hr l H.size) (cwV n hts (fun w hw => ?_) rfl hrc hrs ⟨rfl, y3⟩ hR) ⟨kPre_blind, va_recv hK hP hc he, fun U hU hW => ⟨rfl, kPre_of hK hAb hKS hbs hP hD hS hU hW⟩⟩ rfl hn hl.1 rfl (lv_room hcat) d hcs) hS hFr (fun H1 locs1 hP1 hD1 hS1 _ => kk r hF H1 locs1 ls hP1 (hD1.weaken (fun _ q _ h => hFr q.1 h)) hS1 hl)
  rcases List.mem_append.mp hw with h | h
  · rcases List.mem_cons.mp h with rfl | h
    · exact kTb_good _ h1
    · rcases List.mem_cons.mp h with rfl | h
      · exact kTb_good _ hi
      · rcases List.mem_cons.mp h with rfl | h
        · exact kTb_good _ hs
        · rcases List.mem_cons.mp h with rfl | h
          · exact kTb_good _ y1
          · exact absurd h List.not_mem_nil
  · rcases List.mem_cons.mp h with rfl | h
    · exact kTb_good _ y2
    · exact kTb_good _ h
theorem r_callS {α : Type} {fN : Option α} {ov : α → Option Value} {wv : α → va_W} {G : α → Option ρ} {y : MethodName} {bytes : ByteArray} {maxL n index mc ms : Nat} {ret : Option FieldType} {rm' : Room} {As st0 : List Value} (C : kC X g cc own rm nn) (hM : ∀ r, fN = some r → ∀ l, kM l y bytes maxL ret rm' g As ws (wv r) (ov r) mc ms) (hy : kY y bytes maxL ret n) (hi : Cond.static y ∈ kTb) (h1 : Cond.methodLink own index y ∈ kTb) (hn : As.length = n) (hR : rm'.frames + 1 ≤ rm.frames ∧ 8 + (maxL + 11) + rm'.locals ≤ rm.locals) (hrc : rm'.cells = mc) (hrs : rm'.slots = ms) (hcs : a + mc ≤ rm.cells ∧ b + ms ≤ rm.slots) (hst : st0 = As.reverse ++ st) (hcat : (st.map fun v => v.category).sum ≤ 8) (d : decode cc pc = .ok (.invokestatic index, 3)) (kk : ∀ r, jJ X g res (wv r) (a + mc) (b + ms) (pc + 3) lv ((ov r).toList ++ st) (G r)) : jJ X g res ws a b pc lv st0 (bp fN G) := by
  obtain ⟨p, l, e, R, s, m, args, below, meth, c, Q, A, nL⟩ := X
  obtain ⟨hx, hb, hml, hown, hts, hK, hA, hAb, hKS, hlk, rfl, hbs, rfl⟩ := C
  intro hF H locs ls hP hD hS hl
  obtain ⟨r, hr, hF⟩ : ∃ r, fN = some r ∧ G r = some res := by
    cases hfN : fN with
    | none => rw [hfN] at hF; cases hF
    | some r => rw [hfN] at hF; exact ⟨r, rfl, hF⟩
  have hFr := kFree hA hD hS
  obtain ⟨y1, y2, y3⟩ := hy
  subst hst
  refine k_ret (va_runS (As := As) (rest := st) ⟨hx, hb, hml, hown, hts⟩ (hM r hr l H.size) (va_cwS n hts (fun w hw => ?_) rfl hrc hrs y3 hR) ⟨kPre_blind, fun U hU hW => ⟨rfl, kPre_of hK hAb hKS hbs hP hD hS hU hW⟩⟩ rfl hn hl.1 rfl (lv_room hcat) d hcs) hS hFr (fun H1 locs1 hP1 hD1 hS1 _ => kk r hF H1 locs1 ls hP1 (hD1.weaken (fun _ q _ h => hFr q.1 h)) hS1 hl)
  rcases List.mem_append.mp hw with h | h
  · rcases List.mem_cons.mp h with rfl | h
    · exact kTb_good _ h1
    · rcases List.mem_cons.mp h with rfl | h
      · exact kTb_good _ hi
      · rcases List.mem_cons.mp h with rfl | h
        · exact kTb_good _ y1
        · exact absurd h List.not_mem_nil
  · rcases List.mem_cons.mp h with rfl | h
    · exact kTb_good _ y2
    · exact kTb_good _ h
theorem r_cVwi {σ : Type} {wf : σ → va_W} {fN : Option (Int32 × σ)} {G : Int32 → σ → Option ρ} {y : MethodName} {bytes : ByteArray} {maxL n index adr ci N : Nat} {ret : Option FieldType} {rm' : Room} {As fs st0 : List Value} {T : u_T} (C : kC X g cc own rm nn) (hM : ∀ r S1, fN = some (r, S1) → ∀ l, kM l y bytes maxL ret rm' g (.ref adr :: As) ws (wf S1) (some (.int r)) 0 0) (hy : kY y bytes maxL ret n) (hi : Cond.instanceMethod y ∈ kTb) (hs : Cond.selects y.cls y y ∈ kTb) (h1 : Cond.methodLink own index y ∈ kTb) (hn : As.length = n) (hR : rm'.frames + 1 ≤ rm.frames ∧ 8 + (maxL + 11) + rm'.locals ≤ rm.locals) (hrc : rm'.cells = 0) (hrs : rm'.slots = 0) (hcs : a ≤ rm.cells ∧ b ≤ rm.slots) (q0 : Nat) (he : ws[q0]? = some (adr, .inr (ci, fs))) (hc : vwCl[ci]? = some (y.cls, T, N)) (hst : st0 = As.reverse ++ .ref adr :: st) (hcat : (st.map fun v => v.category).sum ≤ 8) (d : decode cc pc = .ok (.invokevirtual index, 3)) (kk : ∀ r S1, jJ X g res (wf S1) a b (pc + 3) lv (.int r :: st) (G r S1)) : jJ X g res ws a b pc lv st0 (bw fN G) :=
  r_callV (α := Int32 × σ) (ov := fun r => some (.int r.1)) (wv := fun r => wf r.2) (G := fun r => G r.1 r.2) C (fun r h => hM r.1 r.2 h) hy hi hs h1 hn hR hrc hrs hcs q0 he hc hst hcat d (fun r => kk r.1 r.2)
theorem r_cVpi {fN : Option (Int32)} {G : Int32 → Option ρ} {y : MethodName} {bytes : ByteArray} {maxL n index adr ci N : Nat} {ret : Option FieldType} {rm' : Room} {As fs st0 : List Value} {T : u_T} (C : kC X g cc own rm nn) (hM : ∀ r, fN = some r → ∀ l, kM l y bytes maxL ret rm' g (.ref adr :: As) ws ws (some (.int r)) 0 0) (hy : kY y bytes maxL ret n) (hi : Cond.instanceMethod y ∈ kTb) (hs : Cond.selects y.cls y y ∈ kTb) (h1 : Cond.methodLink own index y ∈ kTb) (hn : As.length = n) (hR : rm'.frames + 1 ≤ rm.frames ∧ 8 + (maxL + 11) + rm'.locals ≤ rm.locals) (hrc : rm'.cells = 0) (hrs : rm'.slots = 0) (hcs : a ≤ rm.cells ∧ b ≤ rm.slots) (q0 : Nat) (he : ws[q0]? = some (adr, .inr (ci, fs))) (hc : vwCl[ci]? = some (y.cls, T, N)) (hst : st0 = As.reverse ++ .ref adr :: st) (hcat : (st.map fun v => v.category).sum ≤ 8) (d : decode cc pc = .ok (.invokevirtual index, 3)) (kk : ∀ r, jJ X g res ws a b (pc + 3) lv (.int r :: st) (G r)) : jJ X g res ws a b pc lv st0 (bp fN G) :=
  r_callV (α := Int32) (ov := fun r => some (.int r)) (wv := fun _ => ws) (G := G) C hM hy hi hs h1 hn hR hrc hrs hcs q0 he hc hst hcat d kk
theorem r_cVwz {σ : Type} {wf : σ → va_W} {fN : Option (Bool × σ)} {G : Bool → σ → Option ρ} {y : MethodName} {bytes : ByteArray} {maxL n index adr ci N : Nat} {ret : Option FieldType} {rm' : Room} {As fs st0 : List Value} {T : u_T} (C : kC X g cc own rm nn) (hM : ∀ r S1, fN = some (r, S1) → ∀ l, kM l y bytes maxL ret rm' g (.ref adr :: As) ws (wf S1) (some (.int (b2 r))) 0 0) (hy : kY y bytes maxL ret n) (hi : Cond.instanceMethod y ∈ kTb) (hs : Cond.selects y.cls y y ∈ kTb) (h1 : Cond.methodLink own index y ∈ kTb) (hn : As.length = n) (hR : rm'.frames + 1 ≤ rm.frames ∧ 8 + (maxL + 11) + rm'.locals ≤ rm.locals) (hrc : rm'.cells = 0) (hrs : rm'.slots = 0) (hcs : a ≤ rm.cells ∧ b ≤ rm.slots) (q0 : Nat) (he : ws[q0]? = some (adr, .inr (ci, fs))) (hc : vwCl[ci]? = some (y.cls, T, N)) (hst : st0 = As.reverse ++ .ref adr :: st) (hcat : (st.map fun v => v.category).sum ≤ 8) (d : decode cc pc = .ok (.invokevirtual index, 3)) (kk : ∀ r S1, jJ X g res (wf S1) a b (pc + 3) lv (.int (b2 r) :: st) (G r S1)) : jJ X g res ws a b pc lv st0 (bw fN G) :=
  r_callV (α := Bool × σ) (ov := fun r => some (.int (b2 r.1))) (wv := fun r => wf r.2) (G := fun r => G r.1 r.2) C (fun r h => hM r.1 r.2 h) hy hi hs h1 hn hR hrc hrs hcs q0 he hc hst hcat d (fun r => kk r.1 r.2)
theorem r_cVpz {fN : Option (Bool)} {G : Bool → Option ρ} {y : MethodName} {bytes : ByteArray} {maxL n index adr ci N : Nat} {ret : Option FieldType} {rm' : Room} {As fs st0 : List Value} {T : u_T} (C : kC X g cc own rm nn) (hM : ∀ r, fN = some r → ∀ l, kM l y bytes maxL ret rm' g (.ref adr :: As) ws ws (some (.int (b2 r))) 0 0) (hy : kY y bytes maxL ret n) (hi : Cond.instanceMethod y ∈ kTb) (hs : Cond.selects y.cls y y ∈ kTb) (h1 : Cond.methodLink own index y ∈ kTb) (hn : As.length = n) (hR : rm'.frames + 1 ≤ rm.frames ∧ 8 + (maxL + 11) + rm'.locals ≤ rm.locals) (hrc : rm'.cells = 0) (hrs : rm'.slots = 0) (hcs : a ≤ rm.cells ∧ b ≤ rm.slots) (q0 : Nat) (he : ws[q0]? = some (adr, .inr (ci, fs))) (hc : vwCl[ci]? = some (y.cls, T, N)) (hst : st0 = As.reverse ++ .ref adr :: st) (hcat : (st.map fun v => v.category).sum ≤ 8) (d : decode cc pc = .ok (.invokevirtual index, 3)) (kk : ∀ r, jJ X g res ws a b (pc + 3) lv (.int (b2 r) :: st) (G r)) : jJ X g res ws a b pc lv st0 (bp fN G) :=
  r_callV (α := Bool) (ov := fun r => some (.int (b2 r))) (wv := fun _ => ws) (G := G) C hM hy hi hs h1 hn hR hrc hrs hcs q0 he hc hst hcat d kk
theorem r_cVwl {σ : Type} {wf : σ → va_W} {fN : Option (Int64 × σ)} {G : Int64 → σ → Option ρ} {y : MethodName} {bytes : ByteArray} {maxL n index adr ci N : Nat} {ret : Option FieldType} {rm' : Room} {As fs st0 : List Value} {T : u_T} (C : kC X g cc own rm nn) (hM : ∀ r S1, fN = some (r, S1) → ∀ l, kM l y bytes maxL ret rm' g (.ref adr :: As) ws (wf S1) (some (.long r)) 0 0) (hy : kY y bytes maxL ret n) (hi : Cond.instanceMethod y ∈ kTb) (hs : Cond.selects y.cls y y ∈ kTb) (h1 : Cond.methodLink own index y ∈ kTb) (hn : As.length = n) (hR : rm'.frames + 1 ≤ rm.frames ∧ 8 + (maxL + 11) + rm'.locals ≤ rm.locals) (hrc : rm'.cells = 0) (hrs : rm'.slots = 0) (hcs : a ≤ rm.cells ∧ b ≤ rm.slots) (q0 : Nat) (he : ws[q0]? = some (adr, .inr (ci, fs))) (hc : vwCl[ci]? = some (y.cls, T, N)) (hst : st0 = As.reverse ++ .ref adr :: st) (hcat : (st.map fun v => v.category).sum ≤ 8) (d : decode cc pc = .ok (.invokevirtual index, 3)) (kk : ∀ r S1, jJ X g res (wf S1) a b (pc + 3) lv (.long r :: st) (G r S1)) : jJ X g res ws a b pc lv st0 (bw fN G) :=
  r_callV (α := Int64 × σ) (ov := fun r => some (.long r.1)) (wv := fun r => wf r.2) (G := fun r => G r.1 r.2) C (fun r h => hM r.1 r.2 h) hy hi hs h1 hn hR hrc hrs hcs q0 he hc hst hcat d (fun r => kk r.1 r.2)
theorem r_cVpl {fN : Option (Int64)} {G : Int64 → Option ρ} {y : MethodName} {bytes : ByteArray} {maxL n index adr ci N : Nat} {ret : Option FieldType} {rm' : Room} {As fs st0 : List Value} {T : u_T} (C : kC X g cc own rm nn) (hM : ∀ r, fN = some r → ∀ l, kM l y bytes maxL ret rm' g (.ref adr :: As) ws ws (some (.long r)) 0 0) (hy : kY y bytes maxL ret n) (hi : Cond.instanceMethod y ∈ kTb) (hs : Cond.selects y.cls y y ∈ kTb) (h1 : Cond.methodLink own index y ∈ kTb) (hn : As.length = n) (hR : rm'.frames + 1 ≤ rm.frames ∧ 8 + (maxL + 11) + rm'.locals ≤ rm.locals) (hrc : rm'.cells = 0) (hrs : rm'.slots = 0) (hcs : a ≤ rm.cells ∧ b ≤ rm.slots) (q0 : Nat) (he : ws[q0]? = some (adr, .inr (ci, fs))) (hc : vwCl[ci]? = some (y.cls, T, N)) (hst : st0 = As.reverse ++ .ref adr :: st) (hcat : (st.map fun v => v.category).sum ≤ 8) (d : decode cc pc = .ok (.invokevirtual index, 3)) (kk : ∀ r, jJ X g res ws a b (pc + 3) lv (.long r :: st) (G r)) : jJ X g res ws a b pc lv st0 (bp fN G) :=
  r_callV (α := Int64) (ov := fun r => some (.long r)) (wv := fun _ => ws) (G := G) C hM hy hi hs h1 hn hR hrc hrs hcs q0 he hc hst hcat d kk
theorem r_cVwv {σ : Type} {wf : σ → va_W} {fN : Option (σ)} {G : σ → Option ρ} {y : MethodName} {bytes : ByteArray} {maxL n index adr ci N : Nat} {ret : Option FieldType} {rm' : Room} {As fs st0 : List Value} {T : u_T} (C : kC X g cc own rm nn) (hM : ∀ S1, fN = some S1 → ∀ l, kM l y bytes maxL ret rm' g (.ref adr :: As) ws (wf S1) none 0 0) (hy : kY y bytes maxL ret n) (hi : Cond.instanceMethod y ∈ kTb) (hs : Cond.selects y.cls y y ∈ kTb) (h1 : Cond.methodLink own index y ∈ kTb) (hn : As.length = n) (hR : rm'.frames + 1 ≤ rm.frames ∧ 8 + (maxL + 11) + rm'.locals ≤ rm.locals) (hrc : rm'.cells = 0) (hrs : rm'.slots = 0) (hcs : a ≤ rm.cells ∧ b ≤ rm.slots) (q0 : Nat) (he : ws[q0]? = some (adr, .inr (ci, fs))) (hc : vwCl[ci]? = some (y.cls, T, N)) (hst : st0 = As.reverse ++ .ref adr :: st) (hcat : (st.map fun v => v.category).sum ≤ 8) (d : decode cc pc = .ok (.invokevirtual index, 3)) (kk : ∀ S1, jJ X g res (wf S1) a b (pc + 3) lv st (G S1)) : jJ X g res ws a b pc lv st0 (bp fN G) :=
  r_callV (α := σ) (ov := fun _ => none) (wv := wf) (G := G) C hM hy hi hs h1 hn hR hrc hrs hcs q0 he hc hst hcat d kk
theorem r_cSwi {σ : Type} {wf : σ → va_W} {fN : Option (Int32 × σ)} {G : Int32 → σ → Option ρ} {y : MethodName} {bytes : ByteArray} {maxL n index : Nat} {ret : Option FieldType} {rm' : Room} {As st0 : List Value} (C : kC X g cc own rm nn) (hM : ∀ r S1, fN = some (r, S1) → ∀ l, kM l y bytes maxL ret rm' g (As) ws (wf S1) (some (.int r)) 0 0) (hy : kY y bytes maxL ret n) (hi : Cond.static y ∈ kTb) (h1 : Cond.methodLink own index y ∈ kTb) (hn : As.length = n) (hR : rm'.frames + 1 ≤ rm.frames ∧ 8 + (maxL + 11) + rm'.locals ≤ rm.locals) (hrc : rm'.cells = 0) (hrs : rm'.slots = 0) (hcs : a ≤ rm.cells ∧ b ≤ rm.slots) (hst : st0 = As.reverse ++ st) (hcat : (st.map fun v => v.category).sum ≤ 8) (d : decode cc pc = .ok (.invokestatic index, 3)) (kk : ∀ r S1, jJ X g res (wf S1) a b (pc + 3) lv (.int r :: st) (G r S1)) : jJ X g res ws a b pc lv st0 (bw fN G) :=
  r_callS (α := Int32 × σ) (ov := fun r => some (.int r.1)) (wv := fun r => wf r.2) (G := fun r => G r.1 r.2) C (fun r h => hM r.1 r.2 h) hy hi h1 hn hR hrc hrs hcs hst hcat d (fun r => kk r.1 r.2)
theorem r_cSpi {fN : Option (Int32)} {G : Int32 → Option ρ} {y : MethodName} {bytes : ByteArray} {maxL n index : Nat} {ret : Option FieldType} {rm' : Room} {As st0 : List Value} (C : kC X g cc own rm nn) (hM : ∀ r, fN = some r → ∀ l, kM l y bytes maxL ret rm' g (As) ws ws (some (.int r)) 0 0) (hy : kY y bytes maxL ret n) (hi : Cond.static y ∈ kTb) (h1 : Cond.methodLink own index y ∈ kTb) (hn : As.length = n) (hR : rm'.frames + 1 ≤ rm.frames ∧ 8 + (maxL + 11) + rm'.locals ≤ rm.locals) (hrc : rm'.cells = 0) (hrs : rm'.slots = 0) (hcs : a ≤ rm.cells ∧ b ≤ rm.slots) (hst : st0 = As.reverse ++ st) (hcat : (st.map fun v => v.category).sum ≤ 8) (d : decode cc pc = .ok (.invokestatic index, 3)) (kk : ∀ r, jJ X g res ws a b (pc + 3) lv (.int r :: st) (G r)) : jJ X g res ws a b pc lv st0 (bp fN G) :=
  r_callS (α := Int32) (ov := fun r => some (.int r)) (wv := fun _ => ws) (G := G) C hM hy hi h1 hn hR hrc hrs hcs hst hcat d kk
theorem r_cSwz {σ : Type} {wf : σ → va_W} {fN : Option (Bool × σ)} {G : Bool → σ → Option ρ} {y : MethodName} {bytes : ByteArray} {maxL n index : Nat} {ret : Option FieldType} {rm' : Room} {As st0 : List Value} (C : kC X g cc own rm nn) (hM : ∀ r S1, fN = some (r, S1) → ∀ l, kM l y bytes maxL ret rm' g (As) ws (wf S1) (some (.int (b2 r))) 0 0) (hy : kY y bytes maxL ret n) (hi : Cond.static y ∈ kTb) (h1 : Cond.methodLink own index y ∈ kTb) (hn : As.length = n) (hR : rm'.frames + 1 ≤ rm.frames ∧ 8 + (maxL + 11) + rm'.locals ≤ rm.locals) (hrc : rm'.cells = 0) (hrs : rm'.slots = 0) (hcs : a ≤ rm.cells ∧ b ≤ rm.slots) (hst : st0 = As.reverse ++ st) (hcat : (st.map fun v => v.category).sum ≤ 8) (d : decode cc pc = .ok (.invokestatic index, 3)) (kk : ∀ r S1, jJ X g res (wf S1) a b (pc + 3) lv (.int (b2 r) :: st) (G r S1)) : jJ X g res ws a b pc lv st0 (bw fN G) :=
  r_callS (α := Bool × σ) (ov := fun r => some (.int (b2 r.1))) (wv := fun r => wf r.2) (G := fun r => G r.1 r.2) C (fun r h => hM r.1 r.2 h) hy hi h1 hn hR hrc hrs hcs hst hcat d (fun r => kk r.1 r.2)
theorem r_cSpz {fN : Option (Bool)} {G : Bool → Option ρ} {y : MethodName} {bytes : ByteArray} {maxL n index : Nat} {ret : Option FieldType} {rm' : Room} {As st0 : List Value} (C : kC X g cc own rm nn) (hM : ∀ r, fN = some r → ∀ l, kM l y bytes maxL ret rm' g (As) ws ws (some (.int (b2 r))) 0 0) (hy : kY y bytes maxL ret n) (hi : Cond.static y ∈ kTb) (h1 : Cond.methodLink own index y ∈ kTb) (hn : As.length = n) (hR : rm'.frames + 1 ≤ rm.frames ∧ 8 + (maxL + 11) + rm'.locals ≤ rm.locals) (hrc : rm'.cells = 0) (hrs : rm'.slots = 0) (hcs : a ≤ rm.cells ∧ b ≤ rm.slots) (hst : st0 = As.reverse ++ st) (hcat : (st.map fun v => v.category).sum ≤ 8) (d : decode cc pc = .ok (.invokestatic index, 3)) (kk : ∀ r, jJ X g res ws a b (pc + 3) lv (.int (b2 r) :: st) (G r)) : jJ X g res ws a b pc lv st0 (bp fN G) :=
  r_callS (α := Bool) (ov := fun r => some (.int (b2 r))) (wv := fun _ => ws) (G := G) C hM hy hi h1 hn hR hrc hrs hcs hst hcat d kk
theorem r_cSwl {σ : Type} {wf : σ → va_W} {fN : Option (Int64 × σ)} {G : Int64 → σ → Option ρ} {y : MethodName} {bytes : ByteArray} {maxL n index : Nat} {ret : Option FieldType} {rm' : Room} {As st0 : List Value} (C : kC X g cc own rm nn) (hM : ∀ r S1, fN = some (r, S1) → ∀ l, kM l y bytes maxL ret rm' g (As) ws (wf S1) (some (.long r)) 0 0) (hy : kY y bytes maxL ret n) (hi : Cond.static y ∈ kTb) (h1 : Cond.methodLink own index y ∈ kTb) (hn : As.length = n) (hR : rm'.frames + 1 ≤ rm.frames ∧ 8 + (maxL + 11) + rm'.locals ≤ rm.locals) (hrc : rm'.cells = 0) (hrs : rm'.slots = 0) (hcs : a ≤ rm.cells ∧ b ≤ rm.slots) (hst : st0 = As.reverse ++ st) (hcat : (st.map fun v => v.category).sum ≤ 8) (d : decode cc pc = .ok (.invokestatic index, 3)) (kk : ∀ r S1, jJ X g res (wf S1) a b (pc + 3) lv (.long r :: st) (G r S1)) : jJ X g res ws a b pc lv st0 (bw fN G) :=
  r_callS (α := Int64 × σ) (ov := fun r => some (.long r.1)) (wv := fun r => wf r.2) (G := fun r => G r.1 r.2) C (fun r h => hM r.1 r.2 h) hy hi h1 hn hR hrc hrs hcs hst hcat d (fun r => kk r.1 r.2)
theorem r_cSpl {fN : Option (Int64)} {G : Int64 → Option ρ} {y : MethodName} {bytes : ByteArray} {maxL n index : Nat} {ret : Option FieldType} {rm' : Room} {As st0 : List Value} (C : kC X g cc own rm nn) (hM : ∀ r, fN = some r → ∀ l, kM l y bytes maxL ret rm' g (As) ws ws (some (.long r)) 0 0) (hy : kY y bytes maxL ret n) (hi : Cond.static y ∈ kTb) (h1 : Cond.methodLink own index y ∈ kTb) (hn : As.length = n) (hR : rm'.frames + 1 ≤ rm.frames ∧ 8 + (maxL + 11) + rm'.locals ≤ rm.locals) (hrc : rm'.cells = 0) (hrs : rm'.slots = 0) (hcs : a ≤ rm.cells ∧ b ≤ rm.slots) (hst : st0 = As.reverse ++ st) (hcat : (st.map fun v => v.category).sum ≤ 8) (d : decode cc pc = .ok (.invokestatic index, 3)) (kk : ∀ r, jJ X g res ws a b (pc + 3) lv (.long r :: st) (G r)) : jJ X g res ws a b pc lv st0 (bp fN G) :=
  r_callS (α := Int64) (ov := fun r => some (.long r)) (wv := fun _ => ws) (G := G) C hM hy hi h1 hn hR hrc hrs hcs hst hcat d kk
theorem r_cSwv {σ : Type} {wf : σ → va_W} {fN : Option (σ)} {G : σ → Option ρ} {y : MethodName} {bytes : ByteArray} {maxL n index : Nat} {ret : Option FieldType} {rm' : Room} {As st0 : List Value} (C : kC X g cc own rm nn) (hM : ∀ S1, fN = some S1 → ∀ l, kM l y bytes maxL ret rm' g (As) ws (wf S1) none 0 0) (hy : kY y bytes maxL ret n) (hi : Cond.static y ∈ kTb) (h1 : Cond.methodLink own index y ∈ kTb) (hn : As.length = n) (hR : rm'.frames + 1 ≤ rm.frames ∧ 8 + (maxL + 11) + rm'.locals ≤ rm.locals) (hrc : rm'.cells = 0) (hrs : rm'.slots = 0) (hcs : a ≤ rm.cells ∧ b ≤ rm.slots) (hst : st0 = As.reverse ++ st) (hcat : (st.map fun v => v.category).sum ≤ 8) (d : decode cc pc = .ok (.invokestatic index, 3)) (kk : ∀ S1, jJ X g res (wf S1) a b (pc + 3) lv st (G S1)) : jJ X g res ws a b pc lv st0 (bp fN G) :=
  r_callS (α := σ) (ov := fun _ => none) (wv := wf) (G := G) C hM hy hi h1 hn hR hrc hrs hcs hst hcat d kk
theorem r_retWI {σ : Type} {wf : σ → va_W} {res : Int32 × σ} {S : σ} {v : Int32} (hR : ∀ (pc : Nat) (lv : List (Nat × Value)), decode cc pc = .ok (.ireturn, 1) → jW X g (wf res.2) a b pc lv [.int res.1]) (d : decode cc pc = .ok (.ireturn, 1)) : jJ X g res (wf S) a b pc lv [.int v] (some (v, S)) := by
  intro hF; injection hF with h; subst h; exact hR pc lv d
theorem r_retPI {res v : Int32} (hR : ∀ (pc : Nat) (lv : List (Nat × Value)), decode cc pc = .ok (.ireturn, 1) → jW X g ws a b pc lv [.int res]) (d : decode cc pc = .ok (.ireturn, 1)) : jJ X g res ws a b pc lv [.int v] (some v) := by
  intro hF; injection hF with h; subst h; exact hR pc lv d
theorem r_retWZ {σ : Type} {wf : σ → va_W} {res : Bool × σ} {S : σ} {v : Int32} {w : Bool} (hR : ∀ (pc : Nat) (lv : List (Nat × Value)), decode cc pc = .ok (.ireturn, 1) → jW X g (wf res.2) a b pc lv [.int (b2 res.1)]) (hv : v = b2 w) (d : decode cc pc = .ok (.ireturn, 1)) : jJ X g res (wf S) a b pc lv [.int v] (some (w, S)) := by
  intro hF; injection hF with h; subst h; rw [hv]; exact hR pc lv d
theorem r_retPZ {res : Bool} {v : Int32} {w : Bool} (hR : ∀ (pc : Nat) (lv : List (Nat × Value)), decode cc pc = .ok (.ireturn, 1) → jW X g ws a b pc lv [.int (b2 res)]) (hv : v = b2 w) (d : decode cc pc = .ok (.ireturn, 1)) : jJ X g res ws a b pc lv [.int v] (some w) := by
  intro hF; injection hF with h; subst h; rw [hv]; exact hR pc lv d
theorem r_retWV {σ : Type} {wf : σ → va_W} {res S : σ} (hR : ∀ (pc : Nat) (lv : List (Nat × Value)), decode cc pc = .ok (.return_, 1) → jW X g (wf res) a b pc lv []) (d : decode cc pc = .ok (.return_, 1)) : jJ X g res (wf S) a b pc lv [] (some S) := by
  intro hF; injection hF with h; subst h; exact hR pc lv d
end KROWS
def jn0 {ρ : Type} (k : Option ρ) (f : (Option ρ) → Option ρ) : Option ρ := f k
theorem r_jn0 {X : KX} {g : KG} {ρ : Type} {res : ρ} {ws : va_W} {a b pc : Nat} {lv : List (Nat × Value)} {st : List Value} {k : Option ρ} {f : (Option ρ) → Option ρ} (jpc : Nat) (wf : va_W) (lvf : List (Nat × Value)) (stf : List Value) (hk : jJ X g res (wf ) a b jpc (lvf ) (stf ) (k )) (hf : ∀ k' : Option ρ, (jJ X g res (wf ) a b jpc (lvf ) (stf ) (k' )) → jJ X g res ws a b pc lv st (f k')) : jJ X g res ws a b pc lv st (jn0 k f) := hf k hk
def lo1 {α1 ρ : Type} (body : (α1 → Option ρ) → α1 → Option ρ) : Nat → α1 → Option ρ
  | 0 => fun _ => none
  | n + 1 => body (lo1 body n)
theorem r_lo1 {X : KX} {g : KG} {α1 ρ : Type} {res : ρ} {a b pc : Nat} {st : List Value} {body : (α1 → Option ρ) → α1 → Option ρ} (wf : α1 → va_W) (lvf : α1 → List (Nat × Value)) (h : ∀ rec : α1 → Option ρ, (∀ (x1 : α1), jJ X g res (wf x1) a b pc (lvf x1) st (rec x1)) → ∀ (x1 : α1), jJ X g res (wf x1) a b pc (lvf x1) st (body rec x1)) : ∀ n : Nat, ∀ (x1 : α1), jJ X g res (wf x1) a b pc (lvf x1) st (lo1 body n x1) := by
  intro n
  induction n with
  | zero => intro x1 hF; cases hF
  | succ n ih => exact h _ ih
def jn1 {α1 ρ : Type} (k : α1 → Option ρ) (f : (α1 → Option ρ) → Option ρ) : Option ρ := f k
theorem r_jn1 {X : KX} {g : KG} {α1 ρ : Type} {res : ρ} {ws : va_W} {a b pc : Nat} {lv : List (Nat × Value)} {st : List Value} {k : α1 → Option ρ} {f : (α1 → Option ρ) → Option ρ} (jpc : Nat) (wf : α1 → va_W) (lvf : α1 → List (Nat × Value)) (stf : α1 → List Value) (hk : ∀ (x1 : α1), jJ X g res (wf x1) a b jpc (lvf x1) (stf x1) (k x1)) (hf : ∀ k' : α1 → Option ρ, (∀ (x1 : α1), jJ X g res (wf x1) a b jpc (lvf x1) (stf x1) (k' x1)) → jJ X g res ws a b pc lv st (f k')) : jJ X g res ws a b pc lv st (jn1 k f) := hf k hk
def lo2 {α1 α2 ρ : Type} (body : (α1 → α2 → Option ρ) → α1 → α2 → Option ρ) : Nat → α1 → α2 → Option ρ
  | 0 => fun _ _ => none
  | n + 1 => body (lo2 body n)
theorem r_lo2 {X : KX} {g : KG} {α1 α2 ρ : Type} {res : ρ} {a b pc : Nat} {st : List Value} {body : (α1 → α2 → Option ρ) → α1 → α2 → Option ρ} (wf : α1 → α2 → va_W) (lvf : α1 → α2 → List (Nat × Value)) (h : ∀ rec : α1 → α2 → Option ρ, (∀ (x1 : α1) (x2 : α2), jJ X g res (wf x1 x2) a b pc (lvf x1 x2) st (rec x1 x2)) → ∀ (x1 : α1) (x2 : α2), jJ X g res (wf x1 x2) a b pc (lvf x1 x2) st (body rec x1 x2)) : ∀ n : Nat, ∀ (x1 : α1) (x2 : α2), jJ X g res (wf x1 x2) a b pc (lvf x1 x2) st (lo2 body n x1 x2) := by
  intro n
  induction n with
  | zero => intro x1 x2 hF; cases hF
  | succ n ih => exact h _ ih
def jn2 {α1 α2 ρ : Type} (k : α1 → α2 → Option ρ) (f : (α1 → α2 → Option ρ) → Option ρ) : Option ρ := f k
theorem r_jn2 {X : KX} {g : KG} {α1 α2 ρ : Type} {res : ρ} {ws : va_W} {a b pc : Nat} {lv : List (Nat × Value)} {st : List Value} {k : α1 → α2 → Option ρ} {f : (α1 → α2 → Option ρ) → Option ρ} (jpc : Nat) (wf : α1 → α2 → va_W) (lvf : α1 → α2 → List (Nat × Value)) (stf : α1 → α2 → List Value) (hk : ∀ (x1 : α1) (x2 : α2), jJ X g res (wf x1 x2) a b jpc (lvf x1 x2) (stf x1 x2) (k x1 x2)) (hf : ∀ k' : α1 → α2 → Option ρ, (∀ (x1 : α1) (x2 : α2), jJ X g res (wf x1 x2) a b jpc (lvf x1 x2) (stf x1 x2) (k' x1 x2)) → jJ X g res ws a b pc lv st (f k')) : jJ X g res ws a b pc lv st (jn2 k f) := hf k hk
def lo3 {α1 α2 α3 ρ : Type} (body : (α1 → α2 → α3 → Option ρ) → α1 → α2 → α3 → Option ρ) : Nat → α1 → α2 → α3 → Option ρ
  | 0 => fun _ _ _ => none
  | n + 1 => body (lo3 body n)
theorem r_lo3 {X : KX} {g : KG} {α1 α2 α3 ρ : Type} {res : ρ} {a b pc : Nat} {st : List Value} {body : (α1 → α2 → α3 → Option ρ) → α1 → α2 → α3 → Option ρ} (wf : α1 → α2 → α3 → va_W) (lvf : α1 → α2 → α3 → List (Nat × Value)) (h : ∀ rec : α1 → α2 → α3 → Option ρ, (∀ (x1 : α1) (x2 : α2) (x3 : α3), jJ X g res (wf x1 x2 x3) a b pc (lvf x1 x2 x3) st (rec x1 x2 x3)) → ∀ (x1 : α1) (x2 : α2) (x3 : α3), jJ X g res (wf x1 x2 x3) a b pc (lvf x1 x2 x3) st (body rec x1 x2 x3)) : ∀ n : Nat, ∀ (x1 : α1) (x2 : α2) (x3 : α3), jJ X g res (wf x1 x2 x3) a b pc (lvf x1 x2 x3) st (lo3 body n x1 x2 x3) := by
  intro n
  induction n with
  | zero => intro x1 x2 x3 hF; cases hF
  | succ n ih => exact h _ ih
def jn3 {α1 α2 α3 ρ : Type} (k : α1 → α2 → α3 → Option ρ) (f : (α1 → α2 → α3 → Option ρ) → Option ρ) : Option ρ := f k
theorem r_jn3 {X : KX} {g : KG} {α1 α2 α3 ρ : Type} {res : ρ} {ws : va_W} {a b pc : Nat} {lv : List (Nat × Value)} {st : List Value} {k : α1 → α2 → α3 → Option ρ} {f : (α1 → α2 → α3 → Option ρ) → Option ρ} (jpc : Nat) (wf : α1 → α2 → α3 → va_W) (lvf : α1 → α2 → α3 → List (Nat × Value)) (stf : α1 → α2 → α3 → List Value) (hk : ∀ (x1 : α1) (x2 : α2) (x3 : α3), jJ X g res (wf x1 x2 x3) a b jpc (lvf x1 x2 x3) (stf x1 x2 x3) (k x1 x2 x3)) (hf : ∀ k' : α1 → α2 → α3 → Option ρ, (∀ (x1 : α1) (x2 : α2) (x3 : α3), jJ X g res (wf x1 x2 x3) a b jpc (lvf x1 x2 x3) (stf x1 x2 x3) (k' x1 x2 x3)) → jJ X g res ws a b pc lv st (f k')) : jJ X g res ws a b pc lv st (jn3 k f) := hf k hk
def lo4 {α1 α2 α3 α4 ρ : Type} (body : (α1 → α2 → α3 → α4 → Option ρ) → α1 → α2 → α3 → α4 → Option ρ) : Nat → α1 → α2 → α3 → α4 → Option ρ
  | 0 => fun _ _ _ _ => none
  | n + 1 => body (lo4 body n)
theorem r_lo4 {X : KX} {g : KG} {α1 α2 α3 α4 ρ : Type} {res : ρ} {a b pc : Nat} {st : List Value} {body : (α1 → α2 → α3 → α4 → Option ρ) → α1 → α2 → α3 → α4 → Option ρ} (wf : α1 → α2 → α3 → α4 → va_W) (lvf : α1 → α2 → α3 → α4 → List (Nat × Value)) (h : ∀ rec : α1 → α2 → α3 → α4 → Option ρ, (∀ (x1 : α1) (x2 : α2) (x3 : α3) (x4 : α4), jJ X g res (wf x1 x2 x3 x4) a b pc (lvf x1 x2 x3 x4) st (rec x1 x2 x3 x4)) → ∀ (x1 : α1) (x2 : α2) (x3 : α3) (x4 : α4), jJ X g res (wf x1 x2 x3 x4) a b pc (lvf x1 x2 x3 x4) st (body rec x1 x2 x3 x4)) : ∀ n : Nat, ∀ (x1 : α1) (x2 : α2) (x3 : α3) (x4 : α4), jJ X g res (wf x1 x2 x3 x4) a b pc (lvf x1 x2 x3 x4) st (lo4 body n x1 x2 x3 x4) := by
  intro n
  induction n with
  | zero => intro x1 x2 x3 x4 hF; cases hF
  | succ n ih => exact h _ ih
def jn4 {α1 α2 α3 α4 ρ : Type} (k : α1 → α2 → α3 → α4 → Option ρ) (f : (α1 → α2 → α3 → α4 → Option ρ) → Option ρ) : Option ρ := f k
theorem r_jn4 {X : KX} {g : KG} {α1 α2 α3 α4 ρ : Type} {res : ρ} {ws : va_W} {a b pc : Nat} {lv : List (Nat × Value)} {st : List Value} {k : α1 → α2 → α3 → α4 → Option ρ} {f : (α1 → α2 → α3 → α4 → Option ρ) → Option ρ} (jpc : Nat) (wf : α1 → α2 → α3 → α4 → va_W) (lvf : α1 → α2 → α3 → α4 → List (Nat × Value)) (stf : α1 → α2 → α3 → α4 → List Value) (hk : ∀ (x1 : α1) (x2 : α2) (x3 : α3) (x4 : α4), jJ X g res (wf x1 x2 x3 x4) a b jpc (lvf x1 x2 x3 x4) (stf x1 x2 x3 x4) (k x1 x2 x3 x4)) (hf : ∀ k' : α1 → α2 → α3 → α4 → Option ρ, (∀ (x1 : α1) (x2 : α2) (x3 : α3) (x4 : α4), jJ X g res (wf x1 x2 x3 x4) a b jpc (lvf x1 x2 x3 x4) (stf x1 x2 x3 x4) (k' x1 x2 x3 x4)) → jJ X g res ws a b pc lv st (f k')) : jJ X g res ws a b pc lv st (jn4 k f) := hf k hk
def lo5 {α1 α2 α3 α4 α5 ρ : Type} (body : (α1 → α2 → α3 → α4 → α5 → Option ρ) → α1 → α2 → α3 → α4 → α5 → Option ρ) : Nat → α1 → α2 → α3 → α4 → α5 → Option ρ
  | 0 => fun _ _ _ _ _ => none
  | n + 1 => body (lo5 body n)
theorem r_lo5 {X : KX} {g : KG} {α1 α2 α3 α4 α5 ρ : Type} {res : ρ} {a b pc : Nat} {st : List Value} {body : (α1 → α2 → α3 → α4 → α5 → Option ρ) → α1 → α2 → α3 → α4 → α5 → Option ρ} (wf : α1 → α2 → α3 → α4 → α5 → va_W) (lvf : α1 → α2 → α3 → α4 → α5 → List (Nat × Value)) (h : ∀ rec : α1 → α2 → α3 → α4 → α5 → Option ρ, (∀ (x1 : α1) (x2 : α2) (x3 : α3) (x4 : α4) (x5 : α5), jJ X g res (wf x1 x2 x3 x4 x5) a b pc (lvf x1 x2 x3 x4 x5) st (rec x1 x2 x3 x4 x5)) → ∀ (x1 : α1) (x2 : α2) (x3 : α3) (x4 : α4) (x5 : α5), jJ X g res (wf x1 x2 x3 x4 x5) a b pc (lvf x1 x2 x3 x4 x5) st (body rec x1 x2 x3 x4 x5)) : ∀ n : Nat, ∀ (x1 : α1) (x2 : α2) (x3 : α3) (x4 : α4) (x5 : α5), jJ X g res (wf x1 x2 x3 x4 x5) a b pc (lvf x1 x2 x3 x4 x5) st (lo5 body n x1 x2 x3 x4 x5) := by
  intro n
  induction n with
  | zero => intro x1 x2 x3 x4 x5 hF; cases hF
  | succ n ih => exact h _ ih
def jn5 {α1 α2 α3 α4 α5 ρ : Type} (k : α1 → α2 → α3 → α4 → α5 → Option ρ) (f : (α1 → α2 → α3 → α4 → α5 → Option ρ) → Option ρ) : Option ρ := f k
theorem r_jn5 {X : KX} {g : KG} {α1 α2 α3 α4 α5 ρ : Type} {res : ρ} {ws : va_W} {a b pc : Nat} {lv : List (Nat × Value)} {st : List Value} {k : α1 → α2 → α3 → α4 → α5 → Option ρ} {f : (α1 → α2 → α3 → α4 → α5 → Option ρ) → Option ρ} (jpc : Nat) (wf : α1 → α2 → α3 → α4 → α5 → va_W) (lvf : α1 → α2 → α3 → α4 → α5 → List (Nat × Value)) (stf : α1 → α2 → α3 → α4 → α5 → List Value) (hk : ∀ (x1 : α1) (x2 : α2) (x3 : α3) (x4 : α4) (x5 : α5), jJ X g res (wf x1 x2 x3 x4 x5) a b jpc (lvf x1 x2 x3 x4 x5) (stf x1 x2 x3 x4 x5) (k x1 x2 x3 x4 x5)) (hf : ∀ k' : α1 → α2 → α3 → α4 → α5 → Option ρ, (∀ (x1 : α1) (x2 : α2) (x3 : α3) (x4 : α4) (x5 : α5), jJ X g res (wf x1 x2 x3 x4 x5) a b jpc (lvf x1 x2 x3 x4 x5) (stf x1 x2 x3 x4 x5) (k' x1 x2 x3 x4 x5)) → jJ X g res ws a b pc lv st (f k')) : jJ X g res ws a b pc lv st (jn5 k f) := hf k hk
def lo6 {α1 α2 α3 α4 α5 α6 ρ : Type} (body : (α1 → α2 → α3 → α4 → α5 → α6 → Option ρ) → α1 → α2 → α3 → α4 → α5 → α6 → Option ρ) : Nat → α1 → α2 → α3 → α4 → α5 → α6 → Option ρ
  | 0 => fun _ _ _ _ _ _ => none
  | n + 1 => body (lo6 body n)
theorem r_lo6 {X : KX} {g : KG} {α1 α2 α3 α4 α5 α6 ρ : Type} {res : ρ} {a b pc : Nat} {st : List Value} {body : (α1 → α2 → α3 → α4 → α5 → α6 → Option ρ) → α1 → α2 → α3 → α4 → α5 → α6 → Option ρ} (wf : α1 → α2 → α3 → α4 → α5 → α6 → va_W) (lvf : α1 → α2 → α3 → α4 → α5 → α6 → List (Nat × Value)) (h : ∀ rec : α1 → α2 → α3 → α4 → α5 → α6 → Option ρ, (∀ (x1 : α1) (x2 : α2) (x3 : α3) (x4 : α4) (x5 : α5) (x6 : α6), jJ X g res (wf x1 x2 x3 x4 x5 x6) a b pc (lvf x1 x2 x3 x4 x5 x6) st (rec x1 x2 x3 x4 x5 x6)) → ∀ (x1 : α1) (x2 : α2) (x3 : α3) (x4 : α4) (x5 : α5) (x6 : α6), jJ X g res (wf x1 x2 x3 x4 x5 x6) a b pc (lvf x1 x2 x3 x4 x5 x6) st (body rec x1 x2 x3 x4 x5 x6)) : ∀ n : Nat, ∀ (x1 : α1) (x2 : α2) (x3 : α3) (x4 : α4) (x5 : α5) (x6 : α6), jJ X g res (wf x1 x2 x3 x4 x5 x6) a b pc (lvf x1 x2 x3 x4 x5 x6) st (lo6 body n x1 x2 x3 x4 x5 x6) := by
  intro n
  induction n with
  | zero => intro x1 x2 x3 x4 x5 x6 hF; cases hF
  | succ n ih => exact h _ ih
def jn6 {α1 α2 α3 α4 α5 α6 ρ : Type} (k : α1 → α2 → α3 → α4 → α5 → α6 → Option ρ) (f : (α1 → α2 → α3 → α4 → α5 → α6 → Option ρ) → Option ρ) : Option ρ := f k
theorem r_jn6 {X : KX} {g : KG} {α1 α2 α3 α4 α5 α6 ρ : Type} {res : ρ} {ws : va_W} {a b pc : Nat} {lv : List (Nat × Value)} {st : List Value} {k : α1 → α2 → α3 → α4 → α5 → α6 → Option ρ} {f : (α1 → α2 → α3 → α4 → α5 → α6 → Option ρ) → Option ρ} (jpc : Nat) (wf : α1 → α2 → α3 → α4 → α5 → α6 → va_W) (lvf : α1 → α2 → α3 → α4 → α5 → α6 → List (Nat × Value)) (stf : α1 → α2 → α3 → α4 → α5 → α6 → List Value) (hk : ∀ (x1 : α1) (x2 : α2) (x3 : α3) (x4 : α4) (x5 : α5) (x6 : α6), jJ X g res (wf x1 x2 x3 x4 x5 x6) a b jpc (lvf x1 x2 x3 x4 x5 x6) (stf x1 x2 x3 x4 x5 x6) (k x1 x2 x3 x4 x5 x6)) (hf : ∀ k' : α1 → α2 → α3 → α4 → α5 → α6 → Option ρ, (∀ (x1 : α1) (x2 : α2) (x3 : α3) (x4 : α4) (x5 : α5) (x6 : α6), jJ X g res (wf x1 x2 x3 x4 x5 x6) a b jpc (lvf x1 x2 x3 x4 x5 x6) (stf x1 x2 x3 x4 x5 x6) (k' x1 x2 x3 x4 x5 x6)) → jJ X g res ws a b pc lv st (f k')) : jJ X g res ws a b pc lv st (jn6 k f) := hf k hk
def lo7 {α1 α2 α3 α4 α5 α6 α7 ρ : Type} (body : (α1 → α2 → α3 → α4 → α5 → α6 → α7 → Option ρ) → α1 → α2 → α3 → α4 → α5 → α6 → α7 → Option ρ) : Nat → α1 → α2 → α3 → α4 → α5 → α6 → α7 → Option ρ
  | 0 => fun _ _ _ _ _ _ _ => none
  | n + 1 => body (lo7 body n)
theorem r_lo7 {X : KX} {g : KG} {α1 α2 α3 α4 α5 α6 α7 ρ : Type} {res : ρ} {a b pc : Nat} {st : List Value} {body : (α1 → α2 → α3 → α4 → α5 → α6 → α7 → Option ρ) → α1 → α2 → α3 → α4 → α5 → α6 → α7 → Option ρ} (wf : α1 → α2 → α3 → α4 → α5 → α6 → α7 → va_W) (lvf : α1 → α2 → α3 → α4 → α5 → α6 → α7 → List (Nat × Value)) (h : ∀ rec : α1 → α2 → α3 → α4 → α5 → α6 → α7 → Option ρ, (∀ (x1 : α1) (x2 : α2) (x3 : α3) (x4 : α4) (x5 : α5) (x6 : α6) (x7 : α7), jJ X g res (wf x1 x2 x3 x4 x5 x6 x7) a b pc (lvf x1 x2 x3 x4 x5 x6 x7) st (rec x1 x2 x3 x4 x5 x6 x7)) → ∀ (x1 : α1) (x2 : α2) (x3 : α3) (x4 : α4) (x5 : α5) (x6 : α6) (x7 : α7), jJ X g res (wf x1 x2 x3 x4 x5 x6 x7) a b pc (lvf x1 x2 x3 x4 x5 x6 x7) st (body rec x1 x2 x3 x4 x5 x6 x7)) : ∀ n : Nat, ∀ (x1 : α1) (x2 : α2) (x3 : α3) (x4 : α4) (x5 : α5) (x6 : α6) (x7 : α7), jJ X g res (wf x1 x2 x3 x4 x5 x6 x7) a b pc (lvf x1 x2 x3 x4 x5 x6 x7) st (lo7 body n x1 x2 x3 x4 x5 x6 x7) := by
  intro n
  induction n with
  | zero => intro x1 x2 x3 x4 x5 x6 x7 hF; cases hF
  | succ n ih => exact h _ ih
def jn7 {α1 α2 α3 α4 α5 α6 α7 ρ : Type} (k : α1 → α2 → α3 → α4 → α5 → α6 → α7 → Option ρ) (f : (α1 → α2 → α3 → α4 → α5 → α6 → α7 → Option ρ) → Option ρ) : Option ρ := f k
theorem r_jn7 {X : KX} {g : KG} {α1 α2 α3 α4 α5 α6 α7 ρ : Type} {res : ρ} {ws : va_W} {a b pc : Nat} {lv : List (Nat × Value)} {st : List Value} {k : α1 → α2 → α3 → α4 → α5 → α6 → α7 → Option ρ} {f : (α1 → α2 → α3 → α4 → α5 → α6 → α7 → Option ρ) → Option ρ} (jpc : Nat) (wf : α1 → α2 → α3 → α4 → α5 → α6 → α7 → va_W) (lvf : α1 → α2 → α3 → α4 → α5 → α6 → α7 → List (Nat × Value)) (stf : α1 → α2 → α3 → α4 → α5 → α6 → α7 → List Value) (hk : ∀ (x1 : α1) (x2 : α2) (x3 : α3) (x4 : α4) (x5 : α5) (x6 : α6) (x7 : α7), jJ X g res (wf x1 x2 x3 x4 x5 x6 x7) a b jpc (lvf x1 x2 x3 x4 x5 x6 x7) (stf x1 x2 x3 x4 x5 x6 x7) (k x1 x2 x3 x4 x5 x6 x7)) (hf : ∀ k' : α1 → α2 → α3 → α4 → α5 → α6 → α7 → Option ρ, (∀ (x1 : α1) (x2 : α2) (x3 : α3) (x4 : α4) (x5 : α5) (x6 : α6) (x7 : α7), jJ X g res (wf x1 x2 x3 x4 x5 x6 x7) a b jpc (lvf x1 x2 x3 x4 x5 x6 x7) (stf x1 x2 x3 x4 x5 x6 x7) (k' x1 x2 x3 x4 x5 x6 x7)) → jJ X g res ws a b pc lv st (f k')) : jJ X g res ws a b pc lv st (jn7 k f) := hf k hk
def FU : Nat := 20000
