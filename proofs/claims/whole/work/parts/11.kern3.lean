/-! contracts whose last world is told by a predicate; worlds in another order; what is made -/
theorem nd_iff {α : Type} (l : List α) : l.Nodup ↔ ∀ (i j : Nat) (x : α), l[i]? = some x → l[j]? = some x → i = j := by
  constructor
  · intro h i j x hi hj
    have e1 := (List.getElem?_eq_some_iff.mp hi); have e2 := (List.getElem?_eq_some_iff.mp hj)
    obtain ⟨h1, e1⟩ := e1; obtain ⟨h2, e2⟩ := e2
    have hp := List.pairwise_iff_getElem.mp h
    rcases Nat.lt_trichotomy i j with q | q | q
    · exact absurd (e1.trans e2.symm) (hp i j h1 h2 q)
    · exact q
    · exact absurd (e2.trans e1.symm) (hp j i h2 h1 q)
  · intro h
    refine List.pairwise_iff_getElem.mpr (fun i j hi hj hij e => ?_)
    have := h i j l[i] (List.getElem?_eq_getElem hi) (by rw [e]; exact List.getElem?_eq_getElem hj)
    omega
theorem va_D_iff {A : Nat → Prop} {ws : va_W} : va_D A ws ↔ (ws.map Prod.fst).Nodup ∧ ∀ q ∈ ws, A q.1 := by
  constructor
  · intro h
    refine ⟨(nd_iff _).mpr (fun i j x hi hj => ?_), fun q hq => ?_⟩
    · rw [List.getElem?_map] at hi hj
      cases h1 : ws[i]? with
      | none => rw [h1] at hi; cases hi
      | some p =>
        cases h2 : ws[j]? with
        | none => rw [h2] at hj; cases hj
        | some r =>
          rw [h1] at hi; rw [h2] at hj
          exact h.1 i j p r h1 h2 ((Option.some.inj hi).trans (Option.some.inj hj).symm)
    · obtain ⟨k, hk⟩ := List.getElem?_of_mem hq
      exact h.2 k q hk
  · rintro ⟨h1, h2⟩
    refine ⟨fun i j p q hi hj e => ?_, fun k q hk => h2 q (List.mem_of_getElem? hk)⟩
    exact (nd_iff _).mp h1 i j p.1 (by rw [List.getElem?_map, hi]; rfl) (by rw [List.getElem?_map, hj, e]; rfl)
theorem va_P_iff {D : va_G} {cl : List vw_C} {ws : va_W} {H : Heap} : va_P D cl ws H ↔ ∀ q ∈ ws, va_at D cl q H := ⟨fun h q hq => by obtain ⟨k, hk⟩ := List.getElem?_of_mem hq; exact h k q hk, fun h k q hk => h q (List.mem_of_getElem? hk)⟩
theorem va_P_perm {D : va_G} {cl : List vw_C} {ws ws' : va_W} {H : Heap} (h : ws.Perm ws') (hP : va_P D cl ws H) : va_P D cl ws' H := va_P_iff.mpr (fun q hq => va_P_iff.mp hP q (h.mem_iff.mpr hq))
theorem va_D_perm {A : Nat → Prop} {ws ws' : va_W} (h : ws.Perm ws') (hD : va_D A ws) : va_D A ws' := va_D_iff.mpr ⟨(h.map Prod.fst).nodup_iff.mp (va_D_iff.mp hD).1, fun q hq => (va_D_iff.mp hD).2 q (h.mem_iff.mpr hq)⟩
theorem va_P_left {D : va_G} {cl : List vw_C} {ws l : va_W} {H : Heap} (hP : va_P D cl (ws ++ l) H) : va_P D cl ws H := va_P_iff.mpr (fun q hq => va_P_iff.mp hP q (List.mem_append_left _ hq))
theorem va_P_right {D : va_G} {cl : List vw_C} {ws l : va_W} {H : Heap} (hP : va_P D cl (ws ++ l) H) : va_P D cl l H := va_P_iff.mpr (fun q hq => va_P_iff.mp hP q (List.mem_append_right _ hq))
theorem va_D_left {A : Nat → Prop} {ws l : va_W} (hD : va_D A (ws ++ l)) : va_D A ws := by
  obtain ⟨h1, h2⟩ := va_D_iff.mp hD
  rw [List.map_append] at h1
  exact va_D_iff.mpr ⟨(List.nodup_append.mp h1).1, fun q hq => h2 q (List.mem_append_left _ hq)⟩
theorem va_D_right {A : Nat → Prop} {ws l : va_W} (hD : va_D A (ws ++ l)) : va_D A l := by
  obtain ⟨h1, h2⟩ := va_D_iff.mp hD
  rw [List.map_append] at h1
  exact va_D_iff.mpr ⟨(List.nodup_append.mp h1).2.1, fun q hq => h2 q (List.mem_append_right _ hq)⟩
theorem va_D_apart {A : Nat → Prop} {ws l : va_W} (hD : va_D A (ws ++ l)) : ∀ p ∈ ws, ∀ q ∈ l, p.1 ≠ q.1 := by
  obtain ⟨h1, h2⟩ := va_D_iff.mp hD
  rw [List.map_append] at h1
  exact fun p hp q hq => (List.nodup_append.mp h1).2.2 p.1 (List.mem_map_of_mem hp) q.1 (List.mem_map_of_mem hq)
def kQx (g : KG) (w0 : va_W) (sz : Nat) (Φ : Option Value → va_W → Prop) : Array Value → State → Outcome → State → Prop := fun _ st oc t => (∃ o w1, oc = .returned o ∧ Φ o w1 ∧ va_P g.1 vwCl w1 t.heap ∧ va_D (va_A w0 sz) w1) ∧ va_F (va_A w0 sz) st t
def kMx (l : Launch) (y : MethodName) (cc : ByteArray) (n : Nat) (ret : Option FieldType) (rm : Room) (g : KG) (av : List Value) (w0 : va_W) (Φ : Option Value → va_W → Prop) (mc ms : Nat) : Prop :=
  ∀ sz : Nat, Met l y (.code y cc n ret :: kTb) rm (va_Pc av (kPre g w0 sz)) (kQx g w0 sz Φ) mc ms (va_A w0 sz)
theorem Met_mono {l : Launch} {y : MethodName} {ws : List Cond} {rm : Room} {Pc : Array Value → State → Prop} {Qc Qc' : Array Value → State → Outcome → State → Prop} {mc ms : Nat} {free : Addr → Prop} (h : Met l y ws rm Pc Qc mc ms free) (hq : ∀ a s o t, Qc a s o t → Qc' a s o t) : Met l y ws rm Pc Qc' mc ms free := by
  intro p e ha hc hk s m args below hf happ hP hK
  obtain ⟨k, o, h1, h2, h3, hQ, hL⟩ := h p e ha hc hk s m args below hf happ hP hK
  exact ⟨k, o, h1, h2, h3, hq _ _ _ _ hQ, hL⟩
theorem kM.x {l : Launch} {y : MethodName} {cc : ByteArray} {n : Nat} {ret : Option FieldType} {rm : Room} {g : KG} {av : List Value} {w0 w1 : va_W} {o : Option Value} {mc ms : Nat} {Φ : Option Value → va_W → Prop} (h : kM l y cc n ret rm g av w0 w1 o mc ms) (hΦ : Φ o w1) : kMx l y cc n ret rm g av w0 Φ mc ms := fun sz => Met_mono (h sz) (fun _ _ _ _ q => ⟨⟨o, w1, q.1.1, hΦ, q.1.2⟩, q.2⟩)
theorem kMx.mono {l : Launch} {y : MethodName} {cc : ByteArray} {n : Nat} {ret : Option FieldType} {rm : Room} {g : KG} {av : List Value} {w0 : va_W} {mc ms : Nat} {Φ Φ' : Option Value → va_W → Prop} (h : kMx l y cc n ret rm g av w0 Φ mc ms) (hΦ : ∀ o w, Φ o w → Φ' o w) : kMx l y cc n ret rm g av w0 Φ' mc ms := fun sz => Met_mono (h sz) (fun _ _ _ _ ⟨⟨o, w1, q1, q2, q3⟩, q4⟩ => ⟨⟨o, w1, q1, hΦ o w1 q2, q3⟩, q4⟩)
/-- a part of the last world is enough -/
theorem kMx.less {l : Launch} {y : MethodName} {cc : ByteArray} {n : Nat} {ret : Option FieldType} {rm : Room} {g : KG} {av : List Value} {w0 : va_W} {mc ms : Nat} {Φ Φ' : Option Value → va_W → Prop} (h : kMx l y cc n ret rm g av w0 Φ mc ms) (hΦ : ∀ o w, Φ o w → ∃ w' l', w.Perm (w' ++ l') ∧ Φ' o w') : kMx l y cc n ret rm g av w0 Φ' mc ms := fun sz => Met_mono (h sz) (fun _ _ _ _ ⟨⟨o, w1, q1, q2, q3, q4⟩, q5⟩ => by
  obtain ⟨w', l', hp, hΦ'⟩ := hΦ o w1 q2
  exact ⟨⟨o, w', q1, hΦ', va_P_left (va_P_perm hp q3), va_D_left (va_D_perm hp q4)⟩, q5⟩)
theorem k_openx_i {y : MethodName} {cc : ByteArray} {n : Nat} {rm : Room} {g : KG} {av : List Value} {w0 : va_W} {Φ : Option Value → va_W → Prop} {mc ms : Nat} {own : String} (hy : plainName y.cls = true) (ho : y.cls = own) (hlen : (lg_sl av).length ≤ n) (body : ∀ X : KX, kC X g cc own rm n → (∀ (v : Int32) (w1 : va_W) (pc : Nat) (lv : List (Nat × Value)), Φ (some (.int v)) w1 → decode cc pc = .ok (.ireturn, 1) → jW X g w1 mc ms pc lv [.int v]) → jW X g w0 0 0 0 (lv_args 0 av) []) (l : Launch) : kMx l y cc n (some .int) rm g av w0 Φ mc ms := by
  intro sz
  refine Met.ofW (cc := cc) (maxL := n) (ret := some .int) hy rfl ?_
  intro p e s m args below meth c s₁ B hml hv
  obtain ⟨rfl, hsz, hP, hK, hD0, hbs, hKS⟩ := hv
  subst hsz
  have hD := hD0.self (sz := s.heap.size)
  have hl := lv_entry av hlen
  rw [lg_entry_eq]
  refine body (p, l, e, rm, s, m, av.toArray, below, meth, c, MQ below (kQx g w0 s.heap.size Φ) av.toArray s mc ms (va_A w0 s.heap.size), va_A w0 s.heap.size, n) ⟨B.exec, B.bytes, hml, ho ▸ findClass_of_methodNamed B.named, fun w h => atoms_spec B.pre w (List.mem_cons_of_mem _ h), hK, fun q h => Or.inr h, fun q h => ?_, hKS, B.notSynchronized, rfl, hbs, rfl⟩ (fun v w1 pc lv hΦ d => ?_) s.heap [] _ hP hD va_S.rf hl
  · rcases h with ⟨k, e, h⟩ | h
    · exact hD0.2 k _ h
    · exact Nat.le_trans hbs h
  · intro H locs ls hP hD hS hl
    exact W.iret B.exec B.bytes B.returns (fun t ht hW => ⟨⟨_, w1, rfl, hΦ, by rw [ht]; exact hP, hD⟩, hS.F ht⟩) hS.2.2 d B.notSynchronized
theorem k_openx_v {y : MethodName} {cc : ByteArray} {n : Nat} {rm : Room} {g : KG} {av : List Value} {w0 : va_W} {Φ : Option Value → va_W → Prop} {mc ms : Nat} {own : String} (hy : plainName y.cls = true) (ho : y.cls = own) (hlen : (lg_sl av).length ≤ n) (body : ∀ X : KX, kC X g cc own rm n → (∀ (w1 : va_W) (pc : Nat) (lv : List (Nat × Value)), Φ none w1 → decode cc pc = .ok (.return_, 1) → jW X g w1 mc ms pc lv []) → jW X g w0 0 0 0 (lv_args 0 av) []) (l : Launch) : kMx l y cc n (none) rm g av w0 Φ mc ms := by
  intro sz
  refine Met.ofW (cc := cc) (maxL := n) (ret := none) hy rfl ?_
  intro p e s m args below meth c s₁ B hml hv
  obtain ⟨rfl, hsz, hP, hK, hD0, hbs, hKS⟩ := hv
  subst hsz
  have hD := hD0.self (sz := s.heap.size)
  have hl := lv_entry av hlen
  rw [lg_entry_eq]
  refine body (p, l, e, rm, s, m, av.toArray, below, meth, c, MQ below (kQx g w0 s.heap.size Φ) av.toArray s mc ms (va_A w0 s.heap.size), va_A w0 s.heap.size, n) ⟨B.exec, B.bytes, hml, ho ▸ findClass_of_methodNamed B.named, fun w h => atoms_spec B.pre w (List.mem_cons_of_mem _ h), hK, fun q h => Or.inr h, fun q h => ?_, hKS, B.notSynchronized, rfl, hbs, rfl⟩ (fun w1 pc lv hΦ d => ?_) s.heap [] _ hP hD va_S.rf hl
  · rcases h with ⟨k, e, h⟩ | h
    · exact hD0.2 k _ h
    · exact Nat.le_trans hbs h
  · intro H locs ls hP hD hS hl
    exact W.vret B.exec B.bytes B.returns (fun t ht hW => ⟨⟨_, w1, rfl, hΦ, by rw [ht]; exact hP, hD⟩, hS.F ht⟩) hS.2.2 d B.notSynchronized
theorem k_openx_a {y : MethodName} {cc : ByteArray} {n : Nat} {rm : Room} {g : KG} {av : List Value} {w0 : va_W} {Φ : Option Value → va_W → Prop} {mc ms : Nat} {own : String} {rt : FieldType} (hrt : (∃ n, rt = .object n) ∨ ∃ t, rt = .array t) (hv : ∀ v w, Φ (some v) w → v = .null ∨ ∃ a, v = .ref a) (hy : plainName y.cls = true) (ho : y.cls = own) (hlen : (lg_sl av).length ≤ n) (body : ∀ X : KX, kC X g cc own rm n → (∀ (v : Value) (w1 : va_W) (pc : Nat) (lv : List (Nat × Value)), Φ (some v) w1 → decode cc pc = .ok (.areturn, 1) → jW X g w1 mc ms pc lv [v]) → jW X g w0 0 0 0 (lv_args 0 av) []) (l : Launch) : kMx l y cc n (some rt) rm g av w0 Φ mc ms := by
  intro sz
  refine Met.ofW (cc := cc) (maxL := n) (ret := some rt) hy rfl ?_
  intro p e s m args below meth c s₁ B hml hv
  obtain ⟨rfl, hsz, hP, hK, hD0, hbs, hKS⟩ := hv
  subst hsz
  have hD := hD0.self (sz := s.heap.size)
  have hl := lv_entry av hlen
  rw [lg_entry_eq]
  refine body (p, l, e, rm, s, m, av.toArray, below, meth, c, MQ below (kQx g w0 s.heap.size Φ) av.toArray s mc ms (va_A w0 s.heap.size), va_A w0 s.heap.size, n) ⟨B.exec, B.bytes, hml, ho ▸ findClass_of_methodNamed B.named, fun w h => atoms_spec B.pre w (List.mem_cons_of_mem _ h), hK, fun q h => Or.inr h, fun q h => ?_, hKS, B.notSynchronized, rfl, hbs, rfl⟩ (fun v w1 pc lv hΦ d => ?_) s.heap [] _ hP hD va_S.rf hl
  · rcases h with ⟨k, e, h⟩ | h
    · exact hD0.2 k _ h
    · exact Nat.le_trans hbs h
  · intro H locs ls hP hD hS hl
    exact W.aret B.exec B.bytes B.returns hrt (hv v w1 hΦ) (fun t ht hW => ⟨⟨_, w1, rfl, hΦ, by rw [ht]; exact hP, hD⟩, hS.F ht⟩) hS.2.2 d B.notSynchronized
def kI (X : KX) : Prop := X.2.2.2.2.2.2.2.2.1.name = "<init>"
theorem k_openx_c {y : MethodName} {cc : ByteArray} {n : Nat} {rm : Room} {g : KG} {av : List Value} {w0 : va_W} {Φ : Option Value → va_W → Prop} {mc ms : Nat} {own : String} (hin : y.name = "<init>") (hy : plainName y.cls = true) (ho : y.cls = own) (hlen : (lg_sl av).length ≤ n) (body : ∀ X : KX, kC X g cc own rm n → (∀ (w1 : va_W) (pc : Nat) (lv : List (Nat × Value)), Φ none w1 → decode cc pc = .ok (.return_, 1) → jW X g w1 mc ms pc lv []) → kI X → jW X g w0 0 0 0 (lv_args 0 av) []) (l : Launch) : kMx l y cc n (none) rm g av w0 Φ mc ms := by
  intro sz
  refine Met.ofW (cc := cc) (maxL := n) (ret := none) hy rfl ?_
  intro p e s m args below meth c s₁ B hml hv
  obtain ⟨rfl, hsz, hP, hK, hD0, hbs, hKS⟩ := hv
  subst hsz
  have hD := hD0.self (sz := s.heap.size)
  have hl := lv_entry av hlen
  rw [lg_entry_eq]
  refine body (p, l, e, rm, s, m, av.toArray, below, meth, c, MQ below (kQx g w0 s.heap.size Φ) av.toArray s mc ms (va_A w0 s.heap.size), va_A w0 s.heap.size, n) ⟨B.exec, B.bytes, hml, ho ▸ findClass_of_methodNamed B.named, fun w h => atoms_spec B.pre w (List.mem_cons_of_mem _ h), hK, fun q h => Or.inr h, fun q h => ?_, hKS, B.notSynchronized, rfl, hbs, rfl⟩ (fun w1 pc lv hΦ d => ?_) (((name_of_methodNamed B.named B.method).1).trans hin) s.heap [] _ hP hD va_S.rf hl
  · rcases h with ⟨k, e, h⟩ | h
    · exact hD0.2 k _ h
    · exact Nat.le_trans hbs h
  · intro H locs ls hP hD hS hl
    exact W.vret B.exec B.bytes B.returns (fun t ht hW => ⟨⟨_, w1, rfl, hΦ, by rw [ht]; exact hP, hD⟩, hS.F ht⟩) hS.2.2 d B.notSynchronized
section KROWS3
variable {X : KX} {g : KG} {cc : ByteArray} {own : String} {rm : Room} {nn : Nat} {ρ : Type} {res : ρ} {ws : va_W} {a b pc : Nat} {lv : List (Nat × Value)} {st : List Value} {F F1 F2 : Option ρ}
theorem r_perm {ws' : va_W} (h : ws.Perm ws') (kk : jJ X g res ws' a b pc lv st F) : jJ X g res ws a b pc lv st F := by
  obtain ⟨p, l, e, R, s, m, args, below, meth, c, Q, A, nL⟩ := X
  intro hF H locs ls hP hD hS hl
  exact kk hF H locs ls (va_P_perm h hP) (va_D_perm h hD) hS hl
theorem r_drop {ws' l' : va_W} (h : ws.Perm (ws' ++ l')) (kk : jJ X g res ws' a b pc lv st F) : jJ X g res ws a b pc lv st F := by
  obtain ⟨p, l, e, R, s, m, args, below, meth, c, Q, A, nL⟩ := X
  intro hF H locs ls hP hD hS hl
  exact kk hF H locs ls (va_P_left (va_P_perm h hP)) (va_D_left (va_D_perm h hD)) hS hl
theorem r_widen {a' b' : Nat} (h1 : a ≤ a') (h2 : b ≤ b') (kk : jJ X g res ws a' b' pc lv st F) : jJ X g res ws a b pc lv st F := by
  obtain ⟨p, l, e, R, s, m, args, below, meth, c, Q, A, nL⟩ := X
  intro hF H locs ls hP hD hS hl
  exact W.widen h1 h2 (kk hF H locs ls hP hD hS hl)
theorem r_weq {ws' : va_W} (h : ws = ws') (kk : jJ X g res ws' a b pc lv st F) : jJ X g res ws a b pc lv st F := by rw [h]; exact kk
theorem r_objInit {adr idx : Nat} (C : kC X g cc own rm nn) (h1 : Cond.methodLink own idx Lib.objectInit ∈ kTb) (h2 : Cond.instanceMethod Lib.objectInit ∈ kTb) (h3 : Cond.code Lib.objectInit ⟨#[0xb1]⟩ 1 none ∈ kTb) (hfr : 1 ≤ rm.frames) (hlo : (st.map fun v => v.category).sum + 12 ≤ rm.locals) (d : decode cc pc = .ok (.invokespecial idx, 3)) (kk : jJ X g res ws a b (pc + 3) lv st F) : jJ X g res ws a b pc lv (.ref adr :: st) F := by
  obtain ⟨p, l, e, R, s, m, args, below, meth, c, Q, A, nL⟩ := X
  obtain ⟨hx, hb, hml, hown, hts, hK, hA, hAb, hKS, hlk, rfl, hbs, rfl⟩ := C
  intro hF H locs ls hP hD hS hl
  refine W.objInit hx hb hown (hts _ h1) (hts _ h2) (hts _ h3) rfl (by rw [hml]; exact hl.1) rfl d hfr ?_ (kk hF H locs ls hP hD hS hl)
  have h9 : (F0 m pc ls (.ref adr :: st)).monitorRoom = 0 := rfl
  rw [h9]; omega
theorem r_new {C' : String} {T : u_T} {N ci index : Nat} {fs : List Value} (C : kC X g cc own rm nn) (hin : ∀ w ∈ u_ws C' T N, w ∈ kTb) (ty : Nat → FieldType) (hty : ∀ k, k < N → parseFieldDescriptor (T k).2.2.1 = some (ty k)) (h1 : Cond.classLink own index C' ∈ kTb) (h2 : Cond.instantiable C' N ∈ kTb) (h3 : Cond.initialized C' ∈ kTb) (hc : vwCl[ci]? = some (C', T, N)) (hfs : ∀ j, j < N → defaultValue (ty j) = vp_V fs j) (hcs : a + 1 ≤ rm.cells ∧ b + N ≤ rm.slots) (d : decode cc pc = .ok (.new index, 3)) (kk : ∀ q : Nat, jJ X g res (ws ++ [(q, .inr (ci, fs))]) (a + 1) (b + N) (pc + 3) lv (.ref q :: st) F) : jJ X g res ws a b pc lv st F := by
  obtain ⟨p, l, e, R, s, m, args, below, meth, c, Q, A, nL⟩ := X
  obtain ⟨hx, hb, hml, hown, hts, hK, hA, hAb, hKS, hlk, rfl, hbs, rfl⟩ := C
  intro hF H locs ls hP hD hS hl
  exact va_new hx hb hts hin ty hty hown (hts _ h1) (hts _ h2) (hts _ h3) hK hP hD hS hA hc hfs hcs.1 hcs.2 d (fun q H1 hP1 hD1 hS1 => kk q hF H1 locs ls hP1 hD1 hS1 hl)
theorem r_putR {ws' : va_W} {C' : String} {T : u_T} {N ci index adr k : Nat} {fs : List Value} {v : Value} {ty : FieldType} (C : kC X g cc own rm nn) (hin : ∀ w ∈ u_ws C' T N, w ∈ kTb) (ty0 : Nat → FieldType) (hty : ∀ k, k < N → parseFieldDescriptor (T k).2.2.1 = some (ty0 k)) (hnm : ∀ a, a < N → ∀ b, b < N → a ≠ b → (T a).2.1 ≠ (T b).2.1) (hl' : Cond.fieldLink own index C' (T k).2.1 (T k).2.2.1 ∈ kTb) (q0 : Nat) (he : ws[q0]? = some (adr, .inr (ci, fs))) (hc : vwCl[ci]? = some (C', T, N)) (hk : k < N) (hT : (T k).1 = C') (hfin : (T k).2.2.2 = false) (hd : parseFieldDescriptor (T k).2.2.1 = some ty) (hn : narrow ty v = v) (hfit : fits ty v = true) (hlen : k < fs.length) (hw : ws.set q0 (adr, .inr (ci, fs.set k v)) = ws') (d : decode cc pc = .ok (.putfield index, 3)) (kk : jJ X g res ws' a b (pc + 3) lv st F) : jJ X g res ws a b pc lv (v :: .ref adr :: st) F :=
  r_put (wf := fun _ : Unit => ws') (S' := ()) (G := fun _ => F) C hin ty0 hty hnm hl' q0 he hc hk hT hfin hd hn hfit hlen hw d (fun _ => kk)
theorem r_putF {ws' : va_W} {C' : String} {T : u_T} {N ci index adr k : Nat} {fs : List Value} {v : Value} {ty : FieldType} (C : kC X g cc own rm nn) (hI : kI X) (hin : ∀ w ∈ u_ws C' T N, w ∈ kTb) (ty0 : Nat → FieldType) (hty : ∀ k, k < N → parseFieldDescriptor (T k).2.2.1 = some (ty0 k)) (hnm : ∀ a, a < N → ∀ b, b < N → a ≠ b → (T a).2.1 ≠ (T b).2.1) (hl' : Cond.fieldLink own index C' (T k).2.1 (T k).2.2.1 ∈ kTb) (q0 : Nat) (he : ws[q0]? = some (adr, .inr (ci, fs))) (hc : vwCl[ci]? = some (C', T, N)) (hk : k < N) (hT : (T k).1 = C') (hfin : (T k).2.2.2 = true) (hdecl : (T k).1 = own) (hd : parseFieldDescriptor (T k).2.2.1 = some ty) (hn : narrow ty v = v) (hfit : fits ty v = true) (hlen : k < fs.length) (hw : ws.set q0 (adr, .inr (ci, fs.set k v)) = ws') (d : decode cc pc = .ok (.putfield index, 3)) (kk : jJ X g res ws' a b (pc + 3) lv st F) : jJ X g res ws a b pc lv (v :: .ref adr :: st) F := by
  obtain ⟨p, l, e, R, s, m, args, below, meth, c, Q, A, nL⟩ := X
  obtain ⟨hx, hb, hml, hown, hts, hK, hA, hAb, hKS, hlk, rfl, hbs, rfl⟩ := C
  intro hF H locs ls hP hD hS hl
  exact va_putF hx hb hts hin ty0 hty hnm hown hK hP hD hS q0 he hc k hk (hts _ hl') (by rw [hT]; exact fun _ h => h) hfin hI hdecl hd hn hfit hlen d (fun H1 locs1 hP1 hD1 hS1 => kk hF H1 locs1 ls (by rw [← hw]; exact hP1) (by rw [← hw]; exact hD1) hS1 hl)
theorem r_getV {C' : String} {T : u_T} {N ci index adr k : Nat} {fs : List Value} {v : Value} (C : kC X g cc own rm nn) (hin : ∀ w ∈ u_ws C' T N, w ∈ kTb) (hl' : Cond.fieldLink own index C' (T k).2.1 (T k).2.2.1 ∈ kTb) (q0 : Nat) (he : ws[q0]? = some (adr, .inr (ci, fs))) (hc : vwCl[ci]? = some (C', T, N)) (hk : k < N) (hT : (T k).1 = C') (hv : fs[k]? = some v) (d : decode cc pc = .ok (.getfield index, 3)) (kk : jJ X g res ws a b (pc + 3) lv (v :: st) F) : jJ X g res ws a b pc lv (.ref adr :: st) F := r_get C hin hl' q0 he hc hk hT hv d kk
theorem r_aald {adr n : Nat} {f : Nat → Option Nat} {i : Int32} (C : kC X g cc own rm nn) (q0 : Nat) (he : ws[q0]? = some (adr, .inl (g.2.1.2.2.2, n, .inr (.inr (.inr (.inr f)))))) (d : decode cc pc = .ok (.aaload, 1)) (kk : jJ X g res ws a b (pc + 1) lv (va_rf (f i.toNatClampNeg) :: st) F) : jJ X g res ws a b pc lv (.int i :: .ref adr :: st) (chk i n F) := by
  obtain ⟨p, l, e, R, s, m, args, below, meth, c, Q, A, nL⟩ := X
  obtain ⟨hx, hb, hml, hown, hts, hK, hA, hAb, hKS, hlk, rfl, hbs, rfl⟩ := C
  intro hF H locs ls hP hD hS hl
  obtain ⟨hi, hF⟩ := chk_in hF
  exact va_aldq hx hb hK hP q0 3 he rfl hi d (kk hF H locs ls hP hD hS hl)
theorem r_aast {ws' : va_W} {adr n v : Nat} {vs : List Value} {f : Nat → Option Nat} {i : Int32} (C : kC X g cc own rm nn) (q0 qk : Nat) (he : ws[q0]? = some (adr, .inl (g.2.1.2.2.2, n, .inr (.inr (.inr (.inr f)))))) (hv : ws[qk]? = some (v, .inr (2, vs))) (hw : ws.set q0 (adr, .inl (g.2.1.2.2.2, n, .inr (.inr (.inr (.inr (va_up f i.toNatClampNeg (some v))))))) = ws') (d : decode cc pc = .ok (.aastore, 1)) (kk : jJ X g res ws' a b (pc + 1) lv st F) : jJ X g res ws a b pc lv (.ref v :: .int i :: .ref adr :: st) (chk i n F) := by
  obtain ⟨p, l, e, R, s, m, args, below, meth, c, Q, A, nL⟩ := X
  obtain ⟨hx, hb, hml, hown, hts, hK, hA, hAb, hKS, hlk, rfl, hbs, rfl⟩ := C
  intro hF H locs ls hP hD hS hl
  obtain ⟨hi, hF⟩ := chk_in hF
  exact va_astq (r := (RX2, TX2, 5)) hx hb hK hP hD hS q0 3 qk 2 he rfl hv rfl hi d (fun H1 locs1 hP1 hD1 hS1 => kk hF H1 locs1 ls (by rw [← hw]; exact hP1) (by rw [← hw]; exact hD1) hS1 hl)
theorem k_newa_int {U : State} {cA : ClassId} {ty : FieldType} {tys : List (ClassId × FieldType)} {D : va_G} {cl : List vw_C} (hK : va_K D cl (tys ++ [(cA, ty)]) U) : ArrOfT U cA ty ∧ va_RA U cA ty := hK.2 tys.length (cA, ty) (by simp)
theorem r_newa_int {n : Int32} {N' : Nat} (C : kC X g cc own rm nn) (harr : Cond.arrayClass .int ∈ kTb) (hn : ¬ n < 0) (hN : n.toNatClampNeg = N') (hbytes : N' * componentBytes .int ≤ 536870912) (hcs : a + 1 ≤ rm.cells ∧ b + N' ≤ rm.slots) (d : decode cc pc = .ok (.newarray .int, 2)) (kk : ∀ q : Nat, jJ X g res (ws ++ [(q, .inl (g.2.1.1, N', .inl (fun _ => 0)))]) (a + 1) (b + N') (pc + 2) lv (.ref q :: st) F) : jJ X g res ws a b pc lv (.int n :: st) F := by
  obtain ⟨p, l, e, R, s, m, args, below, meth, c, Q, A, nL⟩ := X
  obtain ⟨hx, hb, hml, hown, hts, hK, hA, hAb, hKS, hlk, rfl, hbs, rfl⟩ := C
  intro hF H locs ls hP hD hS hl
  refine va_newa (atype := .int) (ty := .int) (a0 := (N', .inl (fun _ => 0))) hx hb (hts _ harr) rfl hK hP hD hS hA (fun cA => rfl) hn hN hbytes hcs.1 hcs.2 d (fun q cA H1 hK1 hP1 hD1 hS1 => ?_)
  have h1 : s.vm.findClass ("[" ++ (.int : FieldType).toString) = some cA := (k_newa_int hK1).2
  have h2 : s.vm.findClass ("[" ++ (.int : FieldType).toString) = some g.2.1.1 := (hK.2 0 (g.2.1.1, .int) rfl).2
  have h3 : cA = g.2.1.1 := Option.some.inj (h1.symm.trans h2)
  subst h3
  exact kk q hF H1 locs ls hP1 hD1 hS1 hl
theorem r_newa_byte {n : Int32} {N' : Nat} (C : kC X g cc own rm nn) (harr : Cond.arrayClass .byte ∈ kTb) (hn : ¬ n < 0) (hN : n.toNatClampNeg = N') (hbytes : N' * componentBytes .byte ≤ 536870912) (hcs : a + 1 ≤ rm.cells ∧ b + N' ≤ rm.slots) (d : decode cc pc = .ok (.newarray .byte, 2)) (kk : ∀ q : Nat, jJ X g res (ws ++ [(q, .inl (g.2.1.2.1, N', .inl (fun _ => 0)))]) (a + 1) (b + N') (pc + 2) lv (.ref q :: st) F) : jJ X g res ws a b pc lv (.int n :: st) F := by
  obtain ⟨p, l, e, R, s, m, args, below, meth, c, Q, A, nL⟩ := X
  obtain ⟨hx, hb, hml, hown, hts, hK, hA, hAb, hKS, hlk, rfl, hbs, rfl⟩ := C
  intro hF H locs ls hP hD hS hl
  refine va_newa (atype := .byte) (ty := .byte) (a0 := (N', .inl (fun _ => 0))) hx hb (hts _ harr) rfl hK hP hD hS hA (fun cA => rfl) hn hN hbytes hcs.1 hcs.2 d (fun q cA H1 hK1 hP1 hD1 hS1 => ?_)
  have h1 : s.vm.findClass ("[" ++ (.byte : FieldType).toString) = some cA := (k_newa_int hK1).2
  have h2 : s.vm.findClass ("[" ++ (.byte : FieldType).toString) = some g.2.1.2.1 := (hK.2 1 (g.2.1.2.1, .byte) rfl).2
  have h3 : cA = g.2.1.2.1 := Option.some.inj (h1.symm.trans h2)
  subst h3
  exact kk q hF H1 locs ls hP1 hD1 hS1 hl
theorem r_newa_bool {n : Int32} {N' : Nat} (C : kC X g cc own rm nn) (harr : Cond.arrayClass .boolean ∈ kTb) (hn : ¬ n < 0) (hN : n.toNatClampNeg = N') (hbytes : N' * componentBytes .boolean ≤ 536870912) (hcs : a + 1 ≤ rm.cells ∧ b + N' ≤ rm.slots) (d : decode cc pc = .ok (.newarray .boolean, 2)) (kk : ∀ q : Nat, jJ X g res (ws ++ [(q, .inl (g.2.1.2.2.1, N', .inl (fun _ => 0)))]) (a + 1) (b + N') (pc + 2) lv (.ref q :: st) F) : jJ X g res ws a b pc lv (.int n :: st) F := by
  obtain ⟨p, l, e, R, s, m, args, below, meth, c, Q, A, nL⟩ := X
  obtain ⟨hx, hb, hml, hown, hts, hK, hA, hAb, hKS, hlk, rfl, hbs, rfl⟩ := C
  intro hF H locs ls hP hD hS hl
  refine va_newa (atype := .boolean) (ty := .boolean) (a0 := (N', .inl (fun _ => 0))) hx hb (hts _ harr) rfl hK hP hD hS hA (fun cA => rfl) hn hN hbytes hcs.1 hcs.2 d (fun q cA H1 hK1 hP1 hD1 hS1 => ?_)
  have h1 : s.vm.findClass ("[" ++ (.boolean : FieldType).toString) = some cA := (k_newa_int hK1).2
  have h2 : s.vm.findClass ("[" ++ (.boolean : FieldType).toString) = some g.2.1.2.2.1 := (hK.2 2 (g.2.1.2.2.1, .boolean) rfl).2
  have h3 : cA = g.2.1.2.2.1 := Option.some.inj (h1.symm.trans h2)
  subst h3
  exact kk q hF H1 locs ls hP1 hD1 hS1 hl
theorem r_newa_deed {n : Int32} {N' index : Nat} (C : kC X g cc own rm nn) (hcl : Cond.classLink own index "MarkChains$Deed" ∈ kTb) (hn : ¬ n < 0) (hN : n.toNatClampNeg = N') (hbytes : N' * 4 ≤ 536870912) (hcs : a + 1 ≤ rm.cells ∧ b + N' ≤ rm.slots) (d : decode cc pc = .ok (.anewarray index, 3)) (kk : ∀ q : Nat, jJ X g res (ws ++ [(q, .inl (g.2.1.2.2.2, N', .inr (.inr (.inr (.inr (fun _ => none))))))]) (a + 1) (b + N') (pc + 3) lv (.ref q :: st) F) : jJ X g res ws a b pc lv (.int n :: st) F := by
  obtain ⟨p, l, e, R, s, m, args, below, meth, c, Q, A, nL⟩ := X
  obtain ⟨hx, hb, hml, hown, hts, hK, hA, hAb, hKS, hlk, rfl, hbs, rfl⟩ := C
  intro hF H locs ls hP hD hS hl
  refine va_newq hx hb hown (hts _ hcl) hKS.2.2.1 hK hP hD hS hA hn hN hbytes hcs.1 hcs.2 d (fun q cA H1 hK1 hP1 hD1 hS1 => ?_)
  obtain ⟨kA, comp, u1, u2, u3, h1⟩ := (k_newa_int hK1).2
  obtain ⟨kB, comp2, v1, v2, v3, h2⟩ := (hK.2 3 (g.2.1.2.2.2, .object "MarkChains$Deed") rfl).2
  have h3 : cA = g.2.1.2.2.2 := Option.some.inj (h1.symm.trans h2)
  subst h3
  exact kk q hF H1 locs ls hP1 hD1 hS1 hl
theorem k_retx {p : Program} {l : Launch} {e : Env} {R : Room} {s : State} {m : MethodId} {args : Array Value} {below : List Frame} {meth : Method} {c : Code} {H : Heap} {locs : List Loc} {Q : State → Prop} {A : Nat → Prop} {ls : Array Slot} {st0 : List Value} {wc wr : va_W} {Φ : Option Value → va_W → Prop} {av : Array Value} {mc ms : Nat} (hr : va_Run p l e R s m args below meth c H locs a b mc ms (F0 m pc ls st0) st (kQx g wc H.size Φ av) (va_A wc H.size)) (hS : va_S A s.heap H locs) (hA : ∀ q, s.heap.size ≤ q → A q) (hP : va_P g.1 vwCl (wc ++ wr) H) (hD : va_D A (wc ++ wr))
    (kk : ∀ (o : Option Value) (w1 : va_W) (H1 : Heap) (locs1 : List Loc), Φ o w1 → va_P g.1 vwCl (w1 ++ wr) H1 → va_D A (w1 ++ wr) → va_S A s.heap H1 locs1 → W p l e R s m args below meth c H1 locs1 (a + mc) (b + ms) Q (F0 m (pc + 3) ls (o.toList ++ st))) : W p l e R s m args below meth c H locs a b Q (F0 m pc ls st0) := by
  have hF : ∀ q, va_A wc H.size q → A q := kFree hA (va_D_left hD) hS
  intro T hT X
  obtain ⟨v, st₀, t, T', L, h0, X', hL, e1, e2, ⟨⟨o, w1, hv, hΦ, hP1, hD1⟩, hz, hk⟩, sg⟩ := hr T hT X
  cases hv
  rw [h0] at hz hk
  have hap : ∀ q ∈ wr, ¬ va_A wc H.size q.1 := by
    intro q hq h
    rcases h with ⟨k, e, h⟩ | h
    · exact va_D_apart hD _ (List.mem_of_getElem? h) q hq rfl
    · exact absurd ((va_P_iff.mp (va_P_right hP) q hq).lt) (by omega)
  have hP1' : va_P g.1 vwCl w1 T'.heap := by rw [e1]; exact hP1
  have hPr : va_P g.1 vwCl wr T'.heap := va_P_iff.mpr (fun q hq => (va_P_iff.mp (va_P_right hP) q hq).kept (by rw [e1]; exact hk q.1 ((va_P_iff.mp (va_P_right hP) q hq).lt) (hap q hq)))
  obtain ⟨t2, a1, b1⟩ := kk v w1 T'.heap (locs ++ L) hΦ (hP1'.app hPr) ((hD1.weaken (fun _ q _ h => hF q.1 h)).app (va_D_right hD) (fun i j x y hx hy hxy => hap y (List.mem_of_getElem? hy) (by rw [← hxy]; exact hD1.2 i x hx)))
    ⟨Nat.le_trans hS.1 (by rw [e1]; exact hz), fun q h1 h2 => by rw [e1, hk q (Nat.lt_of_lt_of_le h1 hS.1) (fun z => h2 (hF q z))]; exact hS.2.1 q h1 h2, fun q hq => by
      rcases List.mem_append.mp hq with h | h
      · exact hS.2.2 q h
      · exact hF _ (hL q h)⟩ T' rfl X'
  exact ⟨t2, sg t2 a1, b1⟩
/-- a call over a part wc of the world -/
theorem r_cVx {α : Type} {fN : Option α} {Φ : α → Option Value → va_W → Prop} {G : α → Option ρ} {y : MethodName} {bytes : ByteArray} {maxL n index adr ci N mc ms : Nat} {ret : Option FieldType} {rm' : Room} {As fs st0 : List Value} {T : u_T} {wc wr : va_W} (C : kC X g cc own rm nn) (hM : ∀ r, fN = some r → ∀ l, kMx l y bytes maxL ret rm' g (.ref adr :: As) wc (Φ r) mc ms) (hy : kY y bytes maxL ret n) (hi : Cond.instanceMethod y ∈ kTb) (hs : Cond.selects y.cls y y ∈ kTb) (h1 : Cond.methodLink own index y ∈ kTb) (hn : As.length = n) (hR : rm'.frames + 1 ≤ rm.frames ∧ 8 + (maxL + 11) + rm'.locals ≤ rm.locals) (hrc : rm'.cells = mc) (hrs : rm'.slots = ms) (hcs : a + mc ≤ rm.cells ∧ b + ms ≤ rm.slots) (hws : ws = wc ++ wr) (q0 : Nat) (he : wc[q0]? = some (adr, .inr (ci, fs))) (hc : vwCl[ci]? = some (y.cls, T, N)) (hst : st0 = As.reverse ++ .ref adr :: st) (hcat : (st.map fun v => v.category).sum ≤ 8) (d : decode cc pc = .ok (.invokevirtual index, 3)) (kk : ∀ r o w1, Φ r o w1 → jJ X g res (w1 ++ wr) (a + mc) (b + ms) (pc + 3) lv (o.toList ++ st) (G r)) : jJ X g res ws a b pc lv st0 (bp fN G) := by
  obtain ⟨p, l, e, R, s, m, args, below, meth, c, Q, A, nL⟩ := X
  obtain ⟨hx, hb, hml, hown, hts, hK, hA, hAb, hKS, hlk, rfl, hbs, rfl⟩ := C
  intro hF H locs ls hP hD hS hl
  obtain ⟨r, hr, hF⟩ : ∃ r, fN = some r ∧ G r = some res := by
    cases hfN : fN with
    | none => rw [hfN] at hF; cases hF
    | some r => rw [hfN] at hF; exact ⟨r, rfl, hF⟩
  obtain ⟨y1, y2, y3⟩ := hy
  subst hst
  subst hws
  refine k_retx (va_runV (As := As) (rest := st) ⟨hx, hb, hml, hown, hts⟩ (hM r hr l H.size) (cwV n hts (fun w hw => ?_) rfl hrc hrs ⟨rfl, y3⟩ hR) ⟨kPre_blind, va_recv hK (va_P_left hP) hc he, fun U hU hW => ⟨rfl, kPre_of hK hAb hKS hbs (va_P_left hP) (va_D_left hD) hS hU hW⟩⟩ rfl hn hl.1 rfl (lv_room hcat) d hcs) hS hA hP hD (fun o w1 H1 locs1 hΦ hP1 hD1 hS1 => kk r o w1 hΦ hF H1 locs1 ls hP1 hD1 hS1 hl)
  rcases List.mem_append.mp hw with h | h
  · rcases List.mem_cons.mp h with rfl | h
    · exact kTb_good _ h1
    · rcases List.mem_cons.mp h with rfl | h
      · exact kTb_good _ hi
      · rcases List.mem_cons.mp h with rfl | h
        · exact kTb_good _ hs
        · rcases List.mem_cons.mp h with rfl | h
          · exact kTb_good _ y1
          · exact absurd h List.not_mem_nil
  · rcases List.mem_cons.mp h with rfl | h
    · exact kTb_good _ y2
    · exact kTb_good _ h
theorem r_cIx {α : Type} {fN : Option α} {Φ : α → Option Value → va_W → Prop} {G : α → Option ρ} {y : MethodName} {bytes : ByteArray} {maxL n index adr mc ms : Nat} {rm' : Room} {As st0 : List Value} {wc wr : va_W} (C : kC X g cc own rm nn) (hM : ∀ r, fN = some r → ∀ l, kMx l y bytes maxL none rm' g (.ref adr :: As) wc (Φ r) mc ms) (hy : kY y bytes maxL none n) (hi : Cond.instanceMethod y ∈ kTb) (hin : y.name = "<init>") (h1 : Cond.methodLink own index y ∈ kTb) (hn : As.length = n) (hR : rm'.frames + 1 ≤ rm.frames ∧ 8 + (maxL + 11) + rm'.locals ≤ rm.locals) (hrc : rm'.cells = mc) (hrs : rm'.slots = ms) (hcs : a + mc ≤ rm.cells ∧ b + ms ≤ rm.slots) (hws : ws = wc ++ wr) (hst : st0 = As.reverse ++ .ref adr :: st) (hcat : (st.map fun v => v.category).sum ≤ 8) (d : decode cc pc = .ok (.invokespecial index, 3)) (kk : ∀ r o w1, Φ r o w1 → jJ X g res (w1 ++ wr) (a + mc) (b + ms) (pc + 3) lv (o.toList ++ st) (G r)) : jJ X g res ws a b pc lv st0 (bp fN G) := by
  obtain ⟨p, l, e, R, s, m, args, below, meth, c, Q, A, nL⟩ := X
  obtain ⟨hx, hb, hml, hown, hts, hK, hA, hAb, hKS, hlk, rfl, hbs, rfl⟩ := C
  intro hF H locs ls hP hD hS hl
  obtain ⟨r, hr, hF⟩ : ∃ r, fN = some r ∧ G r = some res := by
    cases hfN : fN with
    | none => rw [hfN] at hF; cases hF
    | some r => rw [hfN] at hF; exact ⟨r, rfl, hF⟩
  obtain ⟨y1, y2, y3⟩ := hy
  subst hst
  subst hws
  refine k_retx (va_runI (As := As) (rest := st) ⟨hx, hb, hml, hown, hts⟩ (hM r hr l H.size) (cwI n hts (fun w hw => ?_) rfl hrc hrs (hts _ y1) (hts _ h1) (hts _ hi) hin y3 hR) ⟨kPre_blind, fun U hU hW => ⟨rfl, kPre_of hK hAb hKS hbs (va_P_left hP) (va_D_left hD) hS hU hW⟩⟩ rfl hn hl.1 rfl (lv_room hcat) d hcs) hS hA hP hD (fun o w1 H1 locs1 hΦ hP1 hD1 hS1 => kk r o w1 hΦ hF H1 locs1 ls hP1 hD1 hS1 hl)
  rcases List.mem_cons.mp hw with rfl | h
  · exact kTb_good _ y2
  · exact kTb_good _ h
theorem r_cINx {α : Type} {fN : Option α} {Φ : α → Option Value → va_W → Prop} {G : α → Option ρ} {y : MethodName} {bytes : ByteArray} {maxL n index adr mc ms : Nat} {rm' : Room} {As st0 : List Value} {wc wr : va_W} {host : String} (C : kC X g cc own rm nn) (hM : ∀ r, fN = some r → ∀ l, kMx l y bytes maxL none rm' g (.ref adr :: As) wc (Φ r) mc ms) (hy : kY y bytes maxL none n) (hi : Cond.instanceMethod y ∈ kTb) (hin : y.name = "<init>") (h1 : (own, index, y, host) ∈ kNM) (hn : As.length = n) (hR : rm'.frames + 1 ≤ rm.frames ∧ 8 + (maxL + 11) + rm'.locals ≤ rm.locals) (hrc : rm'.cells = mc) (hrs : rm'.slots = ms) (hcs : a + mc ≤ rm.cells ∧ b + ms ≤ rm.slots) (hws : ws = wc ++ wr) (hst : st0 = As.reverse ++ .ref adr :: st) (hcat : (st.map fun v => v.category).sum ≤ 8) (d : decode cc pc = .ok (.invokespecial index, 3)) (kk : ∀ r o w1, Φ r o w1 → jJ X g res (w1 ++ wr) (a + mc) (b + ms) (pc + 3) lv (o.toList ++ st) (G r)) : jJ X g res ws a b pc lv st0 (bp fN G) := by
  obtain ⟨p, l, e, R, s, m, args, below, meth, c, Q, A, nL⟩ := X
  obtain ⟨hx, hb, hml, hown, hts, hK, hA, hAb, hKS, hlk, rfl, hbs, rfl⟩ := C
  intro hF H locs ls hP hD hS hl
  obtain ⟨r, hr, hF⟩ : ∃ r, fN = some r ∧ G r = some res := by
    cases hfN : fN with
    | none => rw [hfN] at hF; cases hF
    | some r => rw [hfN] at hF; exact ⟨r, rfl, hF⟩
  obtain ⟨y1, y2, y3⟩ := hy
  subst hst
  subst hws
  refine k_retx (va_runIN (As := As) (rest := st) ⟨hx, hb, hml, hown, hts⟩ (hM r hr l H.size) ⟨va_cnB (host := host) n hts (fun w hw => ?_) rfl hrc hrs (hKS.2.1 _ h1) (hts _ y1) y3 hR, hin, hts _ hi⟩ ⟨kPre_blind, fun U hU hW => ⟨rfl, kPre_of hK hAb hKS hbs (va_P_left hP) (va_D_left hD) hS hU hW⟩⟩ rfl hn hl.1 rfl (lv_room hcat) d hcs) hS hA hP hD (fun o w1 H1 locs1 hΦ hP1 hD1 hS1 => kk r o w1 hΦ hF H1 locs1 ls hP1 hD1 hS1 hl)
  rcases List.mem_cons.mp hw with rfl | h
  · exact kTb_good _ y2
  · exact kTb_good _ h
theorem r_cSx {α : Type} {fN : Option α} {Φ : α → Option Value → va_W → Prop} {G : α → Option ρ} {y : MethodName} {bytes : ByteArray} {maxL n index mc ms : Nat} {ret : Option FieldType} {rm' : Room} {As st0 : List Value} {wc wr : va_W} (C : kC X g cc own rm nn) (hM : ∀ r, fN = some r → ∀ l, kMx l y bytes maxL ret rm' g As wc (Φ r) mc ms) (hy : kY y bytes maxL ret n) (hi : Cond.static y ∈ kTb) (h1 : Cond.methodLink own index y ∈ kTb) (hn : As.length = n) (hR : rm'.frames + 1 ≤ rm.frames ∧ 8 + (maxL + 11) + rm'.locals ≤ rm.locals) (hrc : rm'.cells = mc) (hrs : rm'.slots = ms) (hcs : a + mc ≤ rm.cells ∧ b + ms ≤ rm.slots) (hws : ws = wc ++ wr) (hst : st0 = As.reverse ++ st) (hcat : (st.map fun v => v.category).sum ≤ 8) (d : decode cc pc = .ok (.invokestatic index, 3)) (kk : ∀ r o w1, Φ r o w1 → jJ X g res (w1 ++ wr) (a + mc) (b + ms) (pc + 3) lv (o.toList ++ st) (G r)) : jJ X g res ws a b pc lv st0 (bp fN G) := by
  obtain ⟨p, l, e, R, s, m, args, below, meth, c, Q, A, nL⟩ := X
  obtain ⟨hx, hb, hml, hown, hts, hK, hA, hAb, hKS, hlk, rfl, hbs, rfl⟩ := C
  intro hF H locs ls hP hD hS hl
  obtain ⟨r, hr, hF⟩ : ∃ r, fN = some r ∧ G r = some res := by
    cases hfN : fN with
    | none => rw [hfN] at hF; cases hF
    | some r => rw [hfN] at hF; exact ⟨r, rfl, hF⟩
  obtain ⟨y1, y2, y3⟩ := hy
  subst hst
  subst hws
  refine k_retx (va_runS (As := As) (rest := st) ⟨hx, hb, hml, hown, hts⟩ (hM r hr l H.size) (va_cwS n hts (fun w hw => ?_) rfl hrc hrs y3 hR) ⟨kPre_blind, fun U hU hW => ⟨rfl, kPre_of hK hAb hKS hbs (va_P_left hP) (va_D_left hD) hS hU hW⟩⟩ rfl hn hl.1 rfl (lv_room hcat) d hcs) hS hA hP hD (fun o w1 H1 locs1 hΦ hP1 hD1 hS1 => kk r o w1 hΦ hF H1 locs1 ls hP1 hD1 hS1 hl)
  rcases List.mem_append.mp hw with h | h
  · rcases List.mem_cons.mp h with rfl | h
    · exact kTb_good _ h1
    · rcases List.mem_cons.mp h with rfl | h
      · exact kTb_good _ hi
      · rcases List.mem_cons.mp h with rfl | h
        · exact kTb_good _ y1
        · exact absurd h List.not_mem_nil
  · rcases List.mem_cons.mp h with rfl | h
    · exact kTb_good _ y2
    · exact kTb_good _ h
theorem r_retX {v : Int32} {r : ρ} {Φ : ρ → Option Value → va_W → Prop} (hR : ∀ (v : Int32) (w1 : va_W) (pc : Nat) (lv : List (Nat × Value)), Φ res (some (.int v)) w1 → decode cc pc = .ok (.ireturn, 1) → jW X g w1 a b pc lv [.int v]) (hΦ : Φ r (some (.int v)) ws) (d : decode cc pc = .ok (.ireturn, 1)) : jJ X g res ws a b pc lv [.int v] (some r) := by
  intro hF; injection hF with h; subst h; exact hR v ws pc lv hΦ d
theorem r_retXv {r : ρ} {Φ : ρ → Option Value → va_W → Prop} (hR : ∀ (w1 : va_W) (pc : Nat) (lv : List (Nat × Value)), Φ res none w1 → decode cc pc = .ok (.return_, 1) → jW X g w1 a b pc lv []) (hΦ : Φ r none ws) (d : decode cc pc = .ok (.return_, 1)) : jJ X g res ws a b pc lv [] (some r) := by
  intro hF; injection hF with h; subst h; exact hR ws pc lv hΦ d
theorem r_retXa {v : Value} {r : ρ} {Φ : ρ → Option Value → va_W → Prop} (hR : ∀ (v : Value) (w1 : va_W) (pc : Nat) (lv : List (Nat × Value)), Φ res (some v) w1 → decode cc pc = .ok (.areturn, 1) → jW X g w1 a b pc lv [v]) (hΦ : Φ r (some v) ws) (d : decode cc pc = .ok (.areturn, 1)) : jJ X g res ws a b pc lv [v] (some r) := by
  intro hF; injection hF with h; subst h; exact hR v ws pc lv hΦ d
end KROWS3
