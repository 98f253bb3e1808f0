/-! THE KERNEL: worlds folded into a state, a judgement that carries the functional reading of the rest of the method -/
abbrev KG : Type := va_G × (ClassId × ClassId × ClassId × ClassId) × Nat × (Nat → Nat)
def kT (g : KG) : List (ClassId × FieldType) := [(g.2.1.1, .int), (g.2.1.2.1, .byte), (g.2.1.2.2.1, .boolean), (g.2.1.2.2.2, .object "MarkChains$Deed")]
def kBs (g : KG) : Nat → Prop := fun q => g.2.2.1 ≤ q
/-- what stands below the base and is never written: static arrays, String constants, links between nest mates -/
def kS (g : KG) (U : State) (H : Heap) : Prop :=
  (∀ t ∈ kNF, va_Nw (.fieldLinkNest t.1 t.2.1 t.2.2.1 t.2.2.2.1 t.2.2.2.2.1 t.2.2.2.2.2) U) ∧
  (∀ t ∈ kNM, va_Nw (.methodLinkNest t.1 t.2.1 t.2.2.1 t.2.2.2) U) ∧
  va_AO "MarkChains$Deed" U ∧ va_Nw (.castable "[I" "java/lang/Cloneable") U ∧
  (va_Z "MarkChains" "PAPER_SETS" "[I" (.ref (g.2.2.2 0)) (kBs g) U H ∧ va_T .int (g.2.2.2 0) 7 (fun j => .int (([1, 2, 4, 3, 5, 6, 7] : List Int32).getD j 0)) (kBs g) U H) ∧
  (va_Z "MarkChains$Book" "AGES" "[I" (.ref (g.2.2.2 1)) (kBs g) U H ∧ va_T .int (g.2.2.2 1) 7 (fun j => .int (([18, 20, 23, 35, 40, 45, 50] : List Int32).getD j 0)) (kBs g) U H) ∧
  (va_Z "MarkChains$ItemReader" "LOWEST" "[I" (.ref (g.2.2.2 2)) (kBs g) U H ∧ va_T .int (g.2.2.2 2) 15 (fun j => .int (([0, -1, 0, 0, -30000, 0, 0, 0, 0, 0, 0, 1, -99, 0, 0] : List Int32).getD j 0)) (kBs g) U H) ∧
  (va_Z "MarkChains$ItemReader" "HIGHEST" "[I" (.ref (g.2.2.2 3)) (kBs g) U H ∧ va_T .int (g.2.2.2 3) 15 (fun j => .int (([1, 99, 5, 5000, 20000, 5, 6, 16, 8, 20000, 1439, 1000000, 99, 99, 63] : List Int32).getD j 0)) (kBs g) U H) ∧
  (va_Z "MarkChains$Acts" "NUMBERS" "[I" (.ref (g.2.2.2 4)) (kBs g) U H ∧ va_T .int (g.2.2.2 4) 5 (fun j => .int (([1, 1, 1, 2, 3] : List Int32).getD j 0)) (kBs g) U H) ∧
  va_Z "java/lang/String" "COMPACT_STRINGS" "Z" (.int 1) (kBs g) U H ∧
  vk_R "MarkChains$ItemReader" 29 "epam" (g.2.2.2 5) U ∧ vk_R "MarkChains$FormulaReader" 121 "vwshgedmlbxyz" (g.2.2.2 6) U ∧ vk_R "MarkChains$Acts" 38 "rsdpb" (g.2.2.2 7) U ∧
  vk_S 3 [4, 13, 5] [[101, 112, 97, 109], [118, 119, 115, 104, 103, 101, 100, 109, 108, 98, 120, 121, 122], [114, 115, 100, 112, 98]] (fun i => g.2.2.2 (5 + i)) (fun i => g.2.2.2 (8 + i)) (kBs g) U H
theorem kS.same {g : KG} {u U : State} {H : Heap} (hv : U.vm = u.vm) (h : kS g u H) : kS g U H := by
  have ha : u.vm.Alike U.vm := by rw [hv]; exact Vm.Alike.refl _
  obtain ⟨h1, h2, h3, h4, ⟨a1, b1⟩, ⟨a2, b2⟩, ⟨a3, b3⟩, ⟨a4, b4⟩, ⟨a5, b5⟩, h6, r1, r2, r3, hs⟩ := h
  exact ⟨fun t ht => (h1 t ht).same rfl hv.symm, fun t ht => (h2 t ht).same rfl hv.symm, h3.moved ha, h4.same rfl hv.symm, ⟨a1.moved ha, b1.moved ha⟩, ⟨a2.moved ha, b2.moved ha⟩, ⟨a3.moved ha, b3.moved ha⟩, ⟨a4.moved ha, b4.moved ha⟩, ⟨a5.moved ha, b5.moved ha⟩, h6.moved ha, r1.same hv, r2.same hv, r3.same hv, hs.moved ha⟩
theorem kS.warm {g : KG} {s U : State} {H0 H : Heap} (hW : s.WarmedH U.vm) (hq : ∀ a : Nat, a < H0.size → ¬ kBs g a → H[a]? = H0[a]?) (h : kS g s H0) : kS g U H := by
  have ha := hW.alike
  obtain ⟨h1, h2, h3, h4, ⟨a1, b1⟩, ⟨a2, b2⟩, ⟨a3, b3⟩, ⟨a4, b4⟩, ⟨a5, b5⟩, h6, r1, r2, r3, hs⟩ := h
  exact ⟨fun t ht => va_Nw.warmF hW (h1 t ht), fun t ht => va_Nw.warmM hW (h2 t ht), h3.moved ha, va_Nw.warmC hW h4, ⟨(a1.moved ha).kept hq, (b1.moved ha).kept hq⟩, ⟨(a2.moved ha).kept hq, (b2.moved ha).kept hq⟩, ⟨(a3.moved ha).kept hq, (b3.moved ha).kept hq⟩, ⟨(a4.moved ha).kept hq, (b4.moved ha).kept hq⟩, ⟨(a5.moved ha).kept hq, (b5.moved ha).kept hq⟩, (h6.moved ha).kept hq, r1.warm hW, r2.warm hW, r3.warm hW, (hs.moved ha).kept hq⟩
/-- a method's start and end, between two worlds -/
def kPre (g : KG) (w : va_W) (sz : Nat) (U : State) : Prop := U.heap.size = sz ∧ va_P g.1 vwCl w U.heap ∧ va_K g.1 vwCl (kT g) U ∧ va_D (kBs g) w ∧ g.2.2.1 ≤ sz ∧ kS g U U.heap
def kQ (g : KG) (w0 w1 : va_W) (sz : Nat) (o : Option Value) : Array Value → State → Outcome → State → Prop := fun _ st oc t => (oc = .returned o ∧ va_P g.1 vwCl w1 t.heap ∧ va_D (va_A w0 sz) w1) ∧ va_F (va_A w0 sz) st t
def kM (l : Launch) (y : MethodName) (cc : ByteArray) (n : Nat) (ret : Option FieldType) (rm : Room) (g : KG) (av : List Value) (w0 w1 : va_W) (o : Option Value) (mc ms : Nat) : Prop :=
  ∀ sz : Nat, Met l y (.code y cc n ret :: kTb) rm (va_Pc av (kPre g w0 sz)) (kQ g w0 w1 sz o) mc ms (va_A w0 sz)
theorem kPre_blind {g : KG} {av : List Value} {w : va_W} {sz : Nat} : FrameBlind (va_Pc av (kPre g w sz)) := fun _ U _ _ q => ⟨q.1, q.2.1, q.2.2.1, va_K.moved (Vm.Alike.refl U.vm) q.2.2.2.1, q.2.2.2.2.1, q.2.2.2.2.2.1, kS.same (u := U) rfl q.2.2.2.2.2.2⟩
/-- what is fixed while a method's body is walked -/
abbrev KX : Type := Program × Launch × Env × Room × State × MethodId × Array Value × List Frame × Method × Code × (State → Prop) × (Nat → Prop) × Nat
def kC (X : KX) (g : KG) (cc : ByteArray) (own : String) (rm : Room) (nn : Nat) : Prop := match X with
  | (p, _, _, R, s, m, args, _, meth, c, _, A, nL) => p.tables.exec = Jvm.exec ∧ c.code = cc ∧ c.maxLocals = nL ∧ s.vm.findClass own = some m.cls ∧ (∀ w ∈ kTb, w.before args s = true) ∧ va_K g.1 vwCl (kT g) s ∧ (∀ q, s.heap.size ≤ q → A q) ∧ (∀ q, A q → kBs g q) ∧ kS g s s.heap ∧ meth.locks = false ∧ R = rm ∧ g.2.2.1 ≤ s.heap.size ∧ nL = nn
def jW (X : KX) (g : KG) (ws : va_W) (a b pc : Nat) (lv : List (Nat × Value)) (st : List Value) : Prop := match X with
  | (p, l, e, R, s, m, args, below, meth, c, Q, A, nL) => ∀ (H : Heap) (locs : List Loc) (ls : Array Slot), va_P g.1 vwCl ws H → va_D A ws → va_S A s.heap H locs → lv_has ls nL lv → W p l e R s m args below meth c H locs a b Q (F0 m pc ls st)
/-- the rest of the method from here answers F; res is what the method answers -/
def jJ {ρ : Type} (X : KX) (g : KG) (res : ρ) (ws : va_W) (a b pc : Nat) (lv : List (Nat × Value)) (st : List Value) (F : Option ρ) : Prop := F = some res → jW X g ws a b pc lv st
-- the words of the functional readings
def up {α : Type} (f : Nat → α) (k : Nat) (v : α) : Nat → α := fun j => if j = k then v else f j
def b2 (b : Bool) : Int32 := if b = true then 1 else 0
def lt {α ρ : Type} (x : α) (k : α → Option ρ) : Option ρ := k x
def chk {ρ : Type} (i : Int32) (n : Nat) (F : Option ρ) : Option ρ := if 0 ≤ i.toInt ∧ i.toInt < (n : Int) then F else none
def nz {ρ : Type} (y : Int32) (F : Option ρ) : Option ρ := if y = 0 then none else F
def bp {α ρ : Type} (o : Option α) (k : α → Option ρ) : Option ρ := match o with
  | none => none
  | some r => k r
def bw {α σ ρ : Type} (o : Option (α × σ)) (k : α → σ → Option ρ) : Option ρ := bp o (fun r => k r.1 r.2)
theorem chk_in {i : Int32} {n : Nat} {ρ : Type} {F : Option ρ} {r : ρ} (h : chk i n F = some r) : vp_in i n ∧ F = some r := by
  unfold chk at h
  split at h
  · exact ⟨vp_in_iff.mpr ‹_›, h⟩
  · cases h
-- opening a contract
section KOPEN
variable {y : MethodName} {cc : ByteArray} {n : Nat} {rm : Room} {g : KG} {av : List Value} {w0 w1 : va_W} {mc ms : Nat}
theorem k_open_i {r : Int32} {own : String} (hy : plainName y.cls = true) (ho : y.cls = own) (hlen : (lg_sl av).length ≤ n) (body : ∀ X : KX, kC X g cc own rm n → (∀ (pc : Nat) (lv : List (Nat × Value)), decode cc pc = .ok (.ireturn, 1) → jW X g w1 mc ms pc lv [.int r]) → jW X g w0 0 0 0 (lv_args 0 av) []) (l : Launch) : kM l y cc n (some .int) rm g av w0 w1 (some (.int r)) mc ms := by
  intro sz
  refine Met.ofW (cc := cc) (maxL := n) (ret := some .int) hy rfl ?_
  intro p e s m args below meth c s₁ B hml hv
  obtain ⟨rfl, hsz, hP, hK, hD0, hbs, hKS⟩ := hv
  subst hsz
  have hD := hD0.self (sz := s.heap.size)
  have hl := lv_entry av hlen
  rw [lg_entry_eq]
  refine body (p, l, e, rm, s, m, av.toArray, below, meth, c, MQ below (kQ g w0 w1 s.heap.size (some (.int r))) av.toArray s mc ms (va_A w0 s.heap.size), va_A w0 s.heap.size, n) ⟨B.exec, B.bytes, hml, ho ▸ findClass_of_methodNamed B.named, fun w h => atoms_spec B.pre w (List.mem_cons_of_mem _ h), hK, fun q h => Or.inr h, fun q h => ?_, hKS, B.notSynchronized, rfl, hbs, rfl⟩ (fun pc lv d => ?_) s.heap [] _ hP hD va_S.rf hl
  · rcases h with ⟨k, e, h⟩ | h
    · exact hD0.2 k _ h
    · exact Nat.le_trans hbs h
  · intro H locs ls hP hD hS hl
    exact W.iret B.exec B.bytes B.returns (fun t ht hW => ⟨⟨rfl, by rw [ht]; exact hP, hD⟩, hS.F ht⟩) hS.2.2 d B.notSynchronized
theorem k_open_z {r : Bool} {own : String} (hy : plainName y.cls = true) (ho : y.cls = own) (hlen : (lg_sl av).length ≤ n) (body : ∀ X : KX, kC X g cc own rm n → (∀ (pc : Nat) (lv : List (Nat × Value)), decode cc pc = .ok (.ireturn, 1) → jW X g w1 mc ms pc lv [.int (b2 r)]) → jW X g w0 0 0 0 (lv_args 0 av) []) (l : Launch) : kM l y cc n (some .boolean) rm g av w0 w1 (some (.int (b2 r))) mc ms := by
  intro sz
  refine Met.ofW (cc := cc) (maxL := n) (ret := some .boolean) hy rfl ?_
  intro p e s m args below meth c s₁ B hml hv
  obtain ⟨rfl, hsz, hP, hK, hD0, hbs, hKS⟩ := hv
  subst hsz
  have hD := hD0.self (sz := s.heap.size)
  have hl := lv_entry av hlen
  rw [lg_entry_eq]
  refine body (p, l, e, rm, s, m, av.toArray, below, meth, c, MQ below (kQ g w0 w1 s.heap.size (some (.int (b2 r)))) av.toArray s mc ms (va_A w0 s.heap.size), va_A w0 s.heap.size, n) ⟨B.exec, B.bytes, hml, ho ▸ findClass_of_methodNamed B.named, fun w h => atoms_spec B.pre w (List.mem_cons_of_mem _ h), hK, fun q h => Or.inr h, fun q h => ?_, hKS, B.notSynchronized, rfl, hbs, rfl⟩ (fun pc lv d => ?_) s.heap [] _ hP hD va_S.rf hl
  · rcases h with ⟨k, e, h⟩ | h
    · exact hD0.2 k _ h
    · exact Nat.le_trans hbs h
  · intro H locs ls hP hD hS hl
    exact W.zret B.exec B.bytes B.returns (by cases r <;> decide) (fun t ht hW => ⟨⟨rfl, by rw [ht]; exact hP, hD⟩, hS.F ht⟩) hS.2.2 d B.notSynchronized
theorem k_open_v {own : String} (hy : plainName y.cls = true) (ho : y.cls = own) (hlen : (lg_sl av).length ≤ n) (body : ∀ X : KX, kC X g cc own rm n → (∀ (pc : Nat) (lv : List (Nat × Value)), decode cc pc = .ok (.return_, 1) → jW X g w1 mc ms pc lv []) → jW X g w0 0 0 0 (lv_args 0 av) []) (l : Launch) : kM l y cc n none rm g av w0 w1 none mc ms := by
  intro sz
  refine Met.ofW (cc := cc) (maxL := n) (ret := none) hy rfl ?_
  intro p e s m args below meth c s₁ B hml hv
  obtain ⟨rfl, hsz, hP, hK, hD0, hbs, hKS⟩ := hv
  subst hsz
  have hD := hD0.self (sz := s.heap.size)
  have hl := lv_entry av hlen
  rw [lg_entry_eq]
  refine body (p, l, e, rm, s, m, av.toArray, below, meth, c, MQ below (kQ g w0 w1 s.heap.size none) av.toArray s mc ms (va_A w0 s.heap.size), va_A w0 s.heap.size, n) ⟨B.exec, B.bytes, hml, ho ▸ findClass_of_methodNamed B.named, fun w h => atoms_spec B.pre w (List.mem_cons_of_mem _ h), hK, fun q h => Or.inr h, fun q h => ?_, hKS, B.notSynchronized, rfl, hbs, rfl⟩ (fun pc lv d => ?_) s.heap [] _ hP hD va_S.rf hl
  · rcases h with ⟨k, e, h⟩ | h
    · exact hD0.2 k _ h
    · exact Nat.le_trans hbs h
  · intro H locs ls hP hD hS hl
    exact W.vret B.exec B.bytes B.returns (fun t ht hW => ⟨⟨rfl, by rw [ht]; exact hP, hD⟩, hS.F ht⟩) hS.2.2 d B.notSynchronized
end KOPEN
