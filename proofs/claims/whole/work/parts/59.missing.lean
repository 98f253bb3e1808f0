/-! one thing of what is told is changed: papers, ratified, struck out, today -/
def upN {α : Type} (f : Nat → α) (k : Nat) (v : α) : Nat → α := fun j => if j = k then v else f j
theorem upN_s {α : Type} {f : Nat → α} {k : Nat} {v : α} : upN f k v k = v := if_pos rfl
theorem upN_n {α : Type} {f : Nat → α} {k j : Nat} {v : α} (h : j ≠ k) : upN f k v j = f j := if_neg h
def VW.wpa (V : VW) (x : Nat → Nat) : VW := (V.ne, V.np, V.na, V.n, V.td, V.e0, V.e1, V.p0, V.p1, V.a0, V.a1, V.ev, V.ath, V.pl, V.dy, V.mi, V.va, V.wi, V.sh, x, V.ra, V.sk)
def VW.wra (V : VW) (x : Nat → Int32) : VW := (V.ne, V.np, V.na, V.n, V.td, V.e0, V.e1, V.p0, V.p1, V.a0, V.a1, V.ev, V.ath, V.pl, V.dy, V.mi, V.va, V.wi, V.sh, V.pa, x, V.sk)
def VW.wsk (V : VW) (x : Nat → Int32) : VW := (V.ne, V.np, V.na, V.n, V.td, V.e0, V.e1, V.p0, V.p1, V.a0, V.a1, V.ev, V.ath, V.pl, V.dy, V.mi, V.va, V.wi, V.sh, V.pa, V.ra, x)
def VW.wtd (V : VW) (x : Nat) : VW := (V.ne, V.np, V.na, V.n, x, V.e0, V.e1, V.p0, V.p1, V.a0, V.a1, V.ev, V.ath, V.pl, V.dy, V.mi, V.va, V.wi, V.sh, V.pa, V.ra, V.sk)
def WW.wV (W : WW) (V : VW) : WW := (V, W.L, W.ne, W.nc, W.se, W.sc, W.st)
theorem tR_pa {V : VW} {A : Nat → Int32} (hV : VOK V) (h : tR V A) {k : Nat} (hk : k < V.n) (v : Nat) : tR (V.wpa (upN V.pa k v)) (upd A (65 + 11 * k + 8) (nI v)) := by
  have h6 := hV.ne
  have h8 := hV.np
  have h16 := hV.na
  have h60 := hV.n
  exact ⟨by rw [pk_un (by omega)]; exact h.ne, by rw [pk_un (by omega)]; exact h.np, by rw [pk_un (by omega)]; exact h.na, by rw [pk_un (by omega)]; exact h.n, by rw [pk_un (by omega)]; exact h.td, fun i hi => (by rw [pk_un (by have : i < V.ne := hi; omega)]; exact h.e0 i hi), fun i hi => (by rw [pk_un (by have : i < V.ne := hi; omega)]; exact h.e1 i hi), fun i hi => (by rw [pk_un (by have : i < V.np := hi; omega)]; exact h.p0 i hi), fun i hi => (by rw [pk_un (by have : i < V.np := hi; omega)]; exact h.p1 i hi), fun i hi => (by rw [pk_un (by have : i < V.na := hi; omega)]; exact h.a0 i hi), fun i hi => (by rw [pk_un (by have : i < V.na := hi; omega)]; exact h.a1 i hi), fun j hj => (by rw [pk_un (by omega)]; exact h.ev j hj), fun j hj => (by rw [pk_un (by omega)]; exact h.ath j hj), fun j hj => (by rw [pk_un (by omega)]; exact h.pl j hj), fun j hj => (by rw [pk_un (by omega)]; exact h.dy j hj), fun j hj => (by rw [pk_un (by omega)]; exact h.mi j hj), fun j hj => (by rw [pk_un (by omega)]; exact h.va j hj), fun j hj => (by rw [pk_un (by omega)]; exact h.wi j hj), fun j hj => (by rw [pk_un (by omega)]; exact h.sh j hj), fun j hj => (by
    by_cases z : j = k
    · subst z; rw [pk_us]; exact (congrArg nI upN_s).symm
    · rw [pk_un (by omega)]; exact (h.pa j hj).trans (congrArg nI (upN_n z)).symm), fun j hj => (by rw [pk_un (by omega)]; exact h.ra j hj), fun j hj => (by rw [pk_un (by omega)]; exact h.sk j hj)⟩
theorem tA_pa {W : WW} {A : Nat → Int32} (hV : VOK W.V) (h : tA W A) {k : Nat} (hk : k < W.V.n) (v : Nat) : tA (W.wV (W.V.wpa (upN W.V.pa k v))) (upd A (65 + 11 * k + 8) (nI v)) := by
  have h60 := hV.n
  exact ⟨tR_pa hV h.R hk v, by rw [pk_un (by omega)]; exact h.nm, by rw [pk_un (by omega)]; exact h.n0, fun i hi => (by rw [pk_un (by omega)]; exact h.nb i hi), fun i hi => (by rw [pk_un (by omega)]; exact h.nc i hi), by rw [pk_un (by omega)]; exact h.st, by rw [pk_un (by omega)]; exact h.sd, fun i hi => (by rw [pk_un (by omega)]; exact h.sc i hi)⟩
theorem tR_ra {V : VW} {A : Nat → Int32} (hV : VOK V) (h : tR V A) {k : Nat} (hk : k < V.n) (v : Int32) : tR (V.wra (upN V.ra k v)) (upd A (65 + 11 * k + 9) (v)) := by
  have h6 := hV.ne
  have h8 := hV.np
  have h16 := hV.na
  have h60 := hV.n
  exact ⟨by rw [pk_un (by omega)]; exact h.ne, by rw [pk_un (by omega)]; exact h.np, by rw [pk_un (by omega)]; exact h.na, by rw [pk_un (by omega)]; exact h.n, by rw [pk_un (by omega)]; exact h.td, fun i hi => (by rw [pk_un (by have : i < V.ne := hi; omega)]; exact h.e0 i hi), fun i hi => (by rw [pk_un (by have : i < V.ne := hi; omega)]; exact h.e1 i hi), fun i hi => (by rw [pk_un (by have : i < V.np := hi; omega)]; exact h.p0 i hi), fun i hi => (by rw [pk_un (by have : i < V.np := hi; omega)]; exact h.p1 i hi), fun i hi => (by rw [pk_un (by have : i < V.na := hi; omega)]; exact h.a0 i hi), fun i hi => (by rw [pk_un (by have : i < V.na := hi; omega)]; exact h.a1 i hi), fun j hj => (by rw [pk_un (by omega)]; exact h.ev j hj), fun j hj => (by rw [pk_un (by omega)]; exact h.ath j hj), fun j hj => (by rw [pk_un (by omega)]; exact h.pl j hj), fun j hj => (by rw [pk_un (by omega)]; exact h.dy j hj), fun j hj => (by rw [pk_un (by omega)]; exact h.mi j hj), fun j hj => (by rw [pk_un (by omega)]; exact h.va j hj), fun j hj => (by rw [pk_un (by omega)]; exact h.wi j hj), fun j hj => (by rw [pk_un (by omega)]; exact h.sh j hj), fun j hj => (by rw [pk_un (by omega)]; exact h.pa j hj), fun j hj => (by
    by_cases z : j = k
    · subst z; rw [pk_us]; exact (congrArg id upN_s).symm
    · rw [pk_un (by omega)]; exact (h.ra j hj).trans (congrArg id (upN_n z)).symm), fun j hj => (by rw [pk_un (by omega)]; exact h.sk j hj)⟩
theorem tA_ra {W : WW} {A : Nat → Int32} (hV : VOK W.V) (h : tA W A) {k : Nat} (hk : k < W.V.n) (v : Int32) : tA (W.wV (W.V.wra (upN W.V.ra k v))) (upd A (65 + 11 * k + 9) (v)) := by
  have h60 := hV.n
  exact ⟨tR_ra hV h.R hk v, by rw [pk_un (by omega)]; exact h.nm, by rw [pk_un (by omega)]; exact h.n0, fun i hi => (by rw [pk_un (by omega)]; exact h.nb i hi), fun i hi => (by rw [pk_un (by omega)]; exact h.nc i hi), by rw [pk_un (by omega)]; exact h.st, by rw [pk_un (by omega)]; exact h.sd, fun i hi => (by rw [pk_un (by omega)]; exact h.sc i hi)⟩
theorem tR_sk {V : VW} {A : Nat → Int32} (hV : VOK V) (h : tR V A) {k : Nat} (hk : k < V.n) (v : Int32) : tR (V.wsk (upN V.sk k v)) (upd A (65 + 11 * k + 10) (v)) := by
  have h6 := hV.ne
  have h8 := hV.np
  have h16 := hV.na
  have h60 := hV.n
  exact ⟨by rw [pk_un (by omega)]; exact h.ne, by rw [pk_un (by omega)]; exact h.np, by rw [pk_un (by omega)]; exact h.na, by rw [pk_un (by omega)]; exact h.n, by rw [pk_un (by omega)]; exact h.td, fun i hi => (by rw [pk_un (by have : i < V.ne := hi; omega)]; exact h.e0 i hi), fun i hi => (by rw [pk_un (by have : i < V.ne := hi; omega)]; exact h.e1 i hi), fun i hi => (by rw [pk_un (by have : i < V.np := hi; omega)]; exact h.p0 i hi), fun i hi => (by rw [pk_un (by have : i < V.np := hi; omega)]; exact h.p1 i hi), fun i hi => (by rw [pk_un (by have : i < V.na := hi; omega)]; exact h.a0 i hi), fun i hi => (by rw [pk_un (by have : i < V.na := hi; omega)]; exact h.a1 i hi), fun j hj => (by rw [pk_un (by omega)]; exact h.ev j hj), fun j hj => (by rw [pk_un (by omega)]; exact h.ath j hj), fun j hj => (by rw [pk_un (by omega)]; exact h.pl j hj), fun j hj => (by rw [pk_un (by omega)]; exact h.dy j hj), fun j hj => (by rw [pk_un (by omega)]; exact h.mi j hj), fun j hj => (by rw [pk_un (by omega)]; exact h.va j hj), fun j hj => (by rw [pk_un (by omega)]; exact h.wi j hj), fun j hj => (by rw [pk_un (by omega)]; exact h.sh j hj), fun j hj => (by rw [pk_un (by omega)]; exact h.pa j hj), fun j hj => (by rw [pk_un (by omega)]; exact h.ra j hj), fun j hj => (by
    by_cases z : j = k
    · subst z; rw [pk_us]; exact (congrArg id upN_s).symm
    · rw [pk_un (by omega)]; exact (h.sk j hj).trans (congrArg id (upN_n z)).symm)⟩
theorem tA_sk {W : WW} {A : Nat → Int32} (hV : VOK W.V) (h : tA W A) {k : Nat} (hk : k < W.V.n) (v : Int32) : tA (W.wV (W.V.wsk (upN W.V.sk k v))) (upd A (65 + 11 * k + 10) (v)) := by
  have h60 := hV.n
  exact ⟨tR_sk hV h.R hk v, by rw [pk_un (by omega)]; exact h.nm, by rw [pk_un (by omega)]; exact h.n0, fun i hi => (by rw [pk_un (by omega)]; exact h.nb i hi), fun i hi => (by rw [pk_un (by omega)]; exact h.nc i hi), by rw [pk_un (by omega)]; exact h.st, by rw [pk_un (by omega)]; exact h.sd, fun i hi => (by rw [pk_un (by omega)]; exact h.sc i hi)⟩
theorem tR_td {V : VW} {A : Nat → Int32} (h : tR V A) (v : Nat) : tR (V.wtd v) (upd A 4 (nI v)) := by
  exact ⟨by rw [pk_un (by omega)]; exact h.ne, by rw [pk_un (by omega)]; exact h.np, by rw [pk_un (by omega)]; exact h.na, by rw [pk_un (by omega)]; exact h.n, by rw [pk_us]; rfl, fun i hi => (by rw [pk_un (by omega)]; exact h.e0 i hi), fun i hi => (by rw [pk_un (by omega)]; exact h.e1 i hi), fun i hi => (by rw [pk_un (by omega)]; exact h.p0 i hi), fun i hi => (by rw [pk_un (by omega)]; exact h.p1 i hi), fun i hi => (by rw [pk_un (by omega)]; exact h.a0 i hi), fun i hi => (by rw [pk_un (by omega)]; exact h.a1 i hi), fun i hi => (by rw [pk_un (by omega)]; exact h.ev i hi), fun i hi => (by rw [pk_un (by omega)]; exact h.ath i hi), fun i hi => (by rw [pk_un (by omega)]; exact h.pl i hi), fun i hi => (by rw [pk_un (by omega)]; exact h.dy i hi), fun i hi => (by rw [pk_un (by omega)]; exact h.mi i hi), fun i hi => (by rw [pk_un (by omega)]; exact h.va i hi), fun i hi => (by rw [pk_un (by omega)]; exact h.wi i hi), fun i hi => (by rw [pk_un (by omega)]; exact h.sh i hi), fun i hi => (by rw [pk_un (by omega)]; exact h.pa i hi), fun i hi => (by rw [pk_un (by omega)]; exact h.ra i hi), fun i hi => (by rw [pk_un (by omega)]; exact h.sk i hi)⟩
theorem tA_td {W : WW} {A : Nat → Int32} (h : tA W A) (v : Nat) : tA (W.wV (W.V.wtd v)) (upd A 4 (nI v)) := ⟨tR_td h.R v, by rw [pk_un (by omega)]; exact h.nm, by rw [pk_un (by omega)]; exact h.n0, fun i hi => (by rw [pk_un (by omega)]; exact h.nb i hi), fun i hi => (by rw [pk_un (by omega)]; exact h.nc i hi), by rw [pk_un (by omega)]; exact h.st, by rw [pk_un (by omega)]; exact h.sd, fun i hi => (by rw [pk_un (by omega)]; exact h.sc i hi)⟩
/-! missing -/
theorem nI_or (a b : Nat) : nI a ||| nI b = nI (a ||| b) := by
  apply Int32.toBitVec_inj.mp
  show BitVec.ofNat 32 a ||| BitVec.ofNat 32 b = BitVec.ofNat 32 (a ||| b)
  exact BitVec.ofNat_or.symm
theorem nI_and (a b : Nat) : nI a &&& nI b = nI (a &&& b) := by
  apply Int32.toBitVec_inj.mp
  show BitVec.ofNat 32 a &&& BitVec.ofNat 32 b = BitVec.ofNat 32 (a &&& b)
  exact BitVec.ofNat_and.symm
theorem bit3 : ∀ a : Fin 64, (nI a.val >>> ((120 - 120 : Int32) &&& 31)) &&& 1 = (nI (a.val % 8) >>> ((120 - 120 : Int32) &&& 31)) &&& 1 ∧ (nI a.val >>> ((121 - 120 : Int32) &&& 31)) &&& 1 = (nI (a.val % 8) >>> ((121 - 120 : Int32) &&& 31)) &&& 1 ∧ (nI a.val >>> ((122 - 120 : Int32) &&& 31)) &&& 1 = (nI (a.val % 8) >>> ((122 - 120 : Int32) &&& 31)) &&& 1 := by decide
theorem ev1_p {V : VW} {k : Nat} {p p' : Int32} (h : ∀ c, c ∈ lettersL → vthing V k p (-c) = vthing V k p' (-c)) : ev1 V k p = ev1 V k p' := by
  funext st c
  unfold ev1
  by_cases c0 : 0 ≤ c.toInt
  · rw [if_pos c0, if_pos c0]
  · rw [if_neg c0, if_neg c0]
    by_cases c1 : c ∈ lettersL
    · rw [if_pos c1, if_pos c1, h c c1]
    · rw [if_neg c1, if_neg c1]
theorem lack_p {W : WW} {k : Nat} {p p' : Int32} (h : ∀ c, c ∈ lettersL → vthing W.V k p (-c) = vthing W.V k p' (-c)) : lack W k p = lack W k p' := by
  have e : ∀ i, fvN W k p i = fvN W k p' i := fun i => by unfold fvN fval; rw [ev1_p h]
  have : lkP W k p = lkP W k p' := by funext r; unfold lkP; simp only [e]
  unfold lack
  rw [this]
theorem vth_eq {V : VW} {k : Nat} {p p' s : Int32} (h : s = 98 ∨ s = 100 ∨ s = 101 ∨ s = 103 ∨ s = 104 ∨ s = 108 ∨ s = 109 ∨ s = 115 ∨ s = 118 ∨ s = 119 ∨ (p >>> ((s - 120) &&& 31)) &&& 1 = (p' >>> ((s - 120) &&& 31)) &&& 1) : vthing V k p s = vthing V k p' s := by
  unfold vthing
  by_cases c0 : s = 98
  · rw [if_pos c0, if_pos c0]
  · rw [if_neg c0, if_neg c0]
    by_cases c1 : s = 100
    · rw [if_pos c1, if_pos c1]
    · rw [if_neg c1, if_neg c1]
      by_cases c2 : s = 101
      · rw [if_pos c2, if_pos c2]
      · rw [if_neg c2, if_neg c2]
        by_cases c3 : s = 103
        · rw [if_pos c3, if_pos c3]
        · rw [if_neg c3, if_neg c3]
          by_cases c4 : s = 104
          · rw [if_pos c4, if_pos c4]
          · rw [if_neg c4, if_neg c4]
            by_cases c5 : s = 108
            · rw [if_pos c5, if_pos c5]
            · rw [if_neg c5, if_neg c5]
              by_cases c6 : s = 109
              · rw [if_pos c6, if_pos c6]
              · rw [if_neg c6, if_neg c6]
                by_cases c7 : s = 115
                · rw [if_pos c7, if_pos c7]
                · rw [if_neg c7, if_neg c7]
                  by_cases c8 : s = 118
                  · rw [if_pos c8, if_pos c8]
                  · rw [if_neg c8, if_neg c8]
                    by_cases c9 : s = 119
                    · rw [if_pos c9, if_pos c9]
                    · rw [if_neg c9, if_neg c9]
                      rcases h with h | h | h | h | h | h | h | h | h | h | h
                      · exact absurd h c0
                      · exact absurd h c1
                      · exact absurd h c2
                      · exact absurd h c3
                      · exact absurd h c4
                      · exact absurd h c5
                      · exact absurd h c6
                      · exact absurd h c7
                      · exact absurd h c8
                      · exact absurd h c9
                      · exact h
theorem lack_8 {W : WW} {k a : Nat} (ha : a < 64) : lack W k (nI a) = lack W k (nI (a % 8)) := by
  refine lack_p (fun c hc => ?_)
  obtain ⟨b1, b2, b3⟩ := bit3 ⟨a, ha⟩
  unfold lettersL at hc
  simp only [List.mem_cons, List.not_mem_nil, or_false] at hc
  rcases hc with rfl | rfl | rfl | rfl | rfl | rfl | rfl | rfl | rfl | rfl | rfl | rfl | rfl
  · exact vth_eq (Or.inr (Or.inr (Or.inr (Or.inr (Or.inr (Or.inr (Or.inr (Or.inr (Or.inl (by decide))))))))))
  · exact vth_eq (Or.inr (Or.inr (Or.inr (Or.inr (Or.inr (Or.inr (Or.inr (Or.inr (Or.inr (Or.inl (by decide)))))))))))
  · exact vth_eq (Or.inr (Or.inr (Or.inr (Or.inr (Or.inr (Or.inr (Or.inr (Or.inl (by decide)))))))))
  · exact vth_eq (Or.inr (Or.inr (Or.inr (Or.inr (Or.inl (by decide))))))
  · exact vth_eq (Or.inr (Or.inr (Or.inr (Or.inl (by decide)))))
  · exact vth_eq (Or.inr (Or.inr (Or.inl (by decide))))
  · exact vth_eq (Or.inr (Or.inl (by decide)))
  · exact vth_eq (Or.inr (Or.inr (Or.inr (Or.inr (Or.inr (Or.inr (Or.inl (by decide))))))))
  · exact vth_eq (Or.inr (Or.inr (Or.inr (Or.inr (Or.inr (Or.inl (by decide)))))))
  · exact vth_eq (Or.inl (by decide))
  · exact vth_eq (Or.inr (Or.inr (Or.inr (Or.inr (Or.inr (Or.inr (Or.inr (Or.inr (Or.inr (Or.inr ((show _ by rw [show (-(-120) : Int32) = 120 by decide]; exact b1))))))))))))
  · exact vth_eq (Or.inr (Or.inr (Or.inr (Or.inr (Or.inr (Or.inr (Or.inr (Or.inr (Or.inr (Or.inr ((show _ by rw [show (-(-121) : Int32) = 121 by decide]; exact b2))))))))))))
  · exact vth_eq (Or.inr (Or.inr (Or.inr (Or.inr (Or.inr (Or.inr (Or.inr (Or.inr (Or.inr (Or.inr ((show _ by rw [show (-(-122) : Int32) = 122 by decide]; exact b3))))))))))))
def pcN (t : Nat) : Nat := t % 2 + t / 2 % 2 + t / 4 % 2 + t / 8 % 2 + t / 16 % 2 + t / 32 % 2
def bitsF : Nat → Int32 → Int32 → Option Int32
  | 0, _, _ => none
  | f + 1, a, x => if x = 0 then some a else bitsF f (a + 1) (x &&& (x - 1))
theorem bits_m : ∀ (f fuel : Nat) (a x r : Int32), bitsF f a x = some r → f ≤ fuel → L_X12_bits_4 (fun x10 => some x10) fuel a x = some r := by
  intro f
  induction f with
  | zero => intro fuel a x r h; cases h
  | succ f ih =>
    intro fuel a x r h hf
    cases fuel with
    | zero => omega
    | succ g =>
      unfold L_X12_bits_4
      rw [lo2_succ]
      unfold bitsF at h
      by_cases c : x = 0
      · rw [if_pos c] at h ⊢; exact h
      · rw [if_neg c] at h ⊢
        rw [lt_eq, lt_eq]
        exact ih g _ _ r h (by omega)
theorem bits_7 : ∀ t : Fin 64, bitsF 7 0 (nI t.val) = some (nI (pcN t.val)) := by decide
theorem m_bits {t : Nat} (h : t < 64) : f_X12_bits (nI t) = some (nI (pcN t)) := by
  unfold f_X12_bits
  exact bits_m 7 FU 0 (nI t) _ (bits_7 ⟨t, h⟩) (Nat.le_of_lt (FU_gt (by decide)))
theorem pc_le (t : Nat) : pcN t ≤ 6 := by unfold pcN; omega
def msO (W : WW) (k h t : Nat) : Prop := t &&& h = 0 ∧ lack W k (nI (h ||| t)) = -1
def msP (W : WW) (k h s : Nat) (best : Int32) : Prop := (best = -1 ∧ ∀ t, t < s → ¬ msO W k h t) ∨ ∃ b, b < s ∧ best = nI b ∧ msO W k h b ∧ ∀ t, t < s → msO W k h t → pcN b < pcN t ∨ (pcN b = pcN t ∧ b ≤ t)
theorem msP_un {W : WW} {k h s : Nat} {a b : Int32} (ha : msP W k h s a) (hb : msP W k h s b) : a = b := by
  rcases ha with ⟨e, ha⟩ | ⟨x, x1, e, x2, x3⟩
  · rcases hb with ⟨e', _⟩ | ⟨y, y1, _, y2, _⟩
    · rw [e, e']
    · exact absurd y2 (ha y y1)
  · rcases hb with ⟨_, hb⟩ | ⟨y, y1, e', y2, y3⟩
    · exact absurd x2 (hb x x1)
    · have q1 := x3 y y1 y2
      have q2 := y3 x x1 x2
      rw [e, e', show x = y by omega]
theorem upd_upd {f : Nat → Int32} {k : Nat} {a b : Int32} : upd (upd f k a) k b = upd f k b := by
  funext j
  by_cases c : j = k
  · subst c; rw [pk_us, pk_us]
  · rw [pk_un c, pk_un c, pk_un c]
theorem upd_id {f : Nat → Int32} {k : Nat} {a : Int32} (h : f k = a) : upd f k a = f := by
  funext j
  by_cases c : j = k
  · subst c; rw [pk_us, h]
  · rw [pk_un c]
theorem or_lt {a b : Nat} (ha : a ≤ 63) (hb : b < 64) : a ||| b < 64 := Nat.or_lt_two_pow (n := 6) (by omega) hb
theorem VOK_pa {V : VW} (h : VOK V) {k v : Nat} (hv : v ≤ 63) : VOK (V.wpa (upN V.pa k v)) :=
  ⟨h.ne, h.np, h.na, h.n, h.td, h.e0, h.a0, h.ev, h.ath, h.pl, h.dy, h.mi, h.va, fun j hj => (by
    show upN V.pa k v j ≤ 63
    by_cases z : j = k
    · subst z; rw [upN_s]; exact hv
    · rw [upN_n z]; exact h.pa j hj), h.ra, h.sk⟩
theorem WOK_pa {W : WW} (h : WOK W) {k v : Nat} (hv : v ≤ 63) : WOK (W.wV (W.V.wpa (upN W.V.pa k v))) := ⟨VOK_pa h.V hv, h.so, h.me, h.le, h.n, h.s, h.dy⟩
theorem m_missing {W : WW} {M : MS} (hw : WOK W) (hA : tA W (M.2 0)) {k : Nat} (hk : k < W.V.n) : ∃ b M', L_X12_missing_24 (nI k) (nI (W.V.pa k)) (fun S26 x27 => bp (f_X12_markAt (nI k)) (fun x28 => chk (x28 + 8) 1177 (lt (sa S26 0 (upd (S26.2 0) (x28 + 8).toNatClampNeg (nI (W.V.pa k)))) fun S29 => some (x27, S29)))) FU M (-1) 0 = some (b, M') ∧ fI [] [17] M M' ∧ msP W k (W.V.pa k) 64 b := by
  have hV := hw.V
  have kb := vk hV hk
  have hpa := hA.R.pa k hk
  have e8 : (65 : Int32) + 11 * nI k + 8 = nI (65 + 11 * k + 8) := by
    rw [show (65 : Int32) = nI 65 from rfl, show (11 : Int32) = nI 11 from rfl, show (8 : Int32) = nI 8 from rfl, pk_mul, nI_add, nI_add]
  unfold L_X12_missing_24
  refine lq3 (Q := fun o => ∃ b M', o = some (b, M') ∧ fI [] [17] M M' ∧ msP W k (W.V.pa k) 64 b) 64 (fun s M1 x => fI [] [0, 17] M M1 ∧ (∃ v, M1.2 0 = upd (M.2 0) (65 + 11 * k + 8) v) ∧ msP W k (W.V.pa k) s x) ?_ 0 rfl (Nat.zero_le _) (FU_gt (by omega)) ⟨fI_rf, ⟨nI (W.V.pa k), (upd_id hpa).symm⟩, Or.inl ⟨rfl, fun t ht => by omega⟩⟩
  rintro s M1 x kk hs ⟨hg, ⟨v, hv⟩, hp⟩ hr
  by_cases c : s < 64
  · rw [if_neg (fun h => by rw [show (64 : Int32) = nI 64 from rfl, nI_leI (by omega) (by omega)] at h; omega), nI_and]
    have hand : s &&& W.V.pa k < 64 := Nat.lt_of_le_of_lt Nat.and_le_left c
    have hr := fun a b h1 h2 h3 => hr a b c ⟨h1, h2, h3⟩
    have skip : (¬ msO W k (W.V.pa k) s ∨ ∃ b, b < s ∧ x = nI b ∧ pcN b ≤ pcN s) → msP W k (W.V.pa k) (s + 1) x := by
      intro hno
      rcases hp with ⟨e, hp⟩ | ⟨b, b1, e, b2, b3⟩
      · refine Or.inl ⟨e, fun t ht => ?_⟩
        by_cases z : t = s
        · subst z
          rcases hno with hno | ⟨b, _, e', _⟩
          · exact hno
          · rw [e] at e'; exact absurd e'.symm (nI_nm1 (by omega))
        · exact hp t (by omega)
      · refine Or.inr ⟨b, by omega, e, b2, fun t ht ho => ?_⟩
        by_cases z : t = s
        · subst z
          rcases hno with hno | ⟨b', hb', e', hpc⟩
          · exact absurd ho hno
          · rw [e] at e'
            have : b = b' := (nI_eq (by omega) (by omega)).mp e'
            subst this
            omega
        · exact b3 t (by omega) ho
    by_cases ca : s &&& W.V.pa k = 0
    · rw [if_pos (by rw [ca]; rfl)]
      -- it is tried
      have hor := or_lt kb.2.2.2.2.2.2.2.2.2.2.2.2.2 c
      have go : (x = -1 ∨ ∃ b, b < s ∧ x = nI b ∧ pcN s < pcN b) → ∃ b M', (bp (f_X12_markAt (nI k)) (fun x11 => chk (x11 + 8) 1177 (lt (sa M1 0 (upd (M1.2 0) (x11 + 8).toNatClampNeg (nI (W.V.pa k) ||| nI s))) fun S12 => bw (f_X12_whyNotGood S12 (nI k)) (fun x13 S14 => jn1 (fun (x15 : Int32) => lt (nI s + 1) fun x16 => kk S14 x15 x16) (fun k17 => if x13 = -1 then k17 (nI s) else k17 x))))) = some (b, M') ∧ fI [] [17] M M' ∧ msP W k (W.V.pa k) 64 b := by
        intro hx
        unfold f_X12_markAt
        rw [bp_some, e8, chk_nI (by omega) (by decide), nI_clamp (by omega), hv, upd_upd, nI_or, lt_eq]
        have hA2 : tA (W.wV (W.V.wpa (upN W.V.pa k (W.V.pa k ||| s)))) ((sa M1 0 (upd (M.2 0) (65 + 11 * k + 8) (nI (W.V.pa k ||| s)))).2 0) := tA_pa hV hA hk _
        obtain ⟨M2, g1, g2⟩ := m_why (WOK_pa hw (show W.V.pa k ||| s ≤ 63 by omega)) hA2 hk
        have hl : lack (W.wV (W.V.wpa (upN W.V.pa k (W.V.pa k ||| s)))) k (nI ((W.wV (W.V.wpa (upN W.V.pa k (W.V.pa k ||| s)))).V.pa k)) = lack W k (nI (W.V.pa k ||| s)) := by
          have : (W.wV (W.V.wpa (upN W.V.pa k (W.V.pa k ||| s)))).V.pa k = W.V.pa k ||| s := upN_s
          rw [this]; rfl
        rw [g1, bw_some, hl]
        simp only [jn1, lt_eq, nI_1]
        have hg2 : fI [] [0, 17] M M2 := fI_tr (fI_sa hg (by decide)) g2 (by decide) (by decide)
        have hv2 : ∃ v, M2.2 0 = upd (M.2 0) (65 + 11 * k + 8) v := ⟨_, g2.2 0 (by decide)⟩
        by_cases cl : lack W k (nI (W.V.pa k ||| s)) = -1
        · rw [if_pos cl]
          refine hr M2 _ hg2 hv2 (Or.inr ⟨s, by omega, rfl, ⟨ca, cl⟩, fun t ht ho => ?_⟩)
          by_cases z : t = s
          · subst z; exact Or.inr ⟨rfl, Nat.le_refl _⟩
          · rcases hp with ⟨e, hp⟩ | ⟨b, b1, e, b2, b3⟩
            · exact absurd ho (hp t (by omega))
            · rcases hx with hx | ⟨b', hb', e', hpc⟩
              · rw [e] at hx; exact absurd hx (nI_nm1 (by omega))
              · rw [e] at e'
                have : b = b' := (nI_eq (by omega) (by omega)).mp e'
                subst this
                have := b3 t (by omega) ho
                left; omega
        · rw [if_neg cl]
          exact hr M2 _ hg2 hv2 (skip (Or.inl (fun z => cl z.2)))
      simp only [jn0]
      by_cases cx : x = -1
      · rw [if_pos cx]; exact go (Or.inl cx)
      · rw [if_neg cx]
        have hb : ∃ b, b < s ∧ x = nI b := by
          rcases hp with ⟨e, _⟩ | ⟨b, b1, e, _⟩
          · exact absurd e cx
          · exact ⟨b, b1, e⟩
        obtain ⟨b, b1, e⟩ := hb
        have p1 := pc_le s
        have p2 := pc_le b
        rw [m_bits c, bp_some, e, m_bits (show b < 64 by omega), bp_some]
        by_cases cp : pcN s < pcN b
        · rw [if_pos ((nI_ltI (by omega) (by omega)).mpr cp)]
          have := go (Or.inr ⟨b, b1, e, cp⟩)
          rw [e] at this
          exact this
        · rw [if_neg (fun h => cp ((nI_ltI (by omega) (by omega)).mp h)), lt_eq, nI_1, ← e]
          exact hr M1 _ hg ⟨v, hv⟩ (skip (Or.inr ⟨b, b1, e, by omega⟩))
    · rw [if_neg (show ¬ nI (s &&& W.V.pa k) = 0 from fun h => ca ((nI_eq (by omega) (by omega)).mp (show nI (s &&& W.V.pa k) = nI 0 from h))), lt_eq, nI_1]
      exact hr M1 _ hg ⟨v, hv⟩ (skip (Or.inl (fun z => ca z.1)))
  · have : s = 64 := by omega
    subst this
    rw [if_pos (by decide)]
    dsimp only
    unfold f_X12_markAt
    rw [bp_some, e8, chk_nI (by omega) (by decide), nI_clamp (by omega), hv, upd_upd, upd_id hpa, lt_eq]
    refine ⟨x, _, rfl, ⟨hg.1, fun j hj => ?_⟩, hp⟩
    by_cases z : j = 0
    · subst z; show up M1.2 0 (M.2 0) 0 = _; exact up_eq
    · show up M1.2 0 _ j = _
      rw [up_ne z]
      exact hg.2 j (fun y => by
        simp only [List.mem_cons, List.not_mem_nil, or_false] at y hj
        omega)
theorem f1_64 : ∀ t h : Fin 64, t.val &&& h.val = 0 → (t.val % 8) &&& h.val = 0 := by decide
theorem f2_64 : ∀ t h : Fin 64, (h.val ||| t.val) % 8 = (h.val ||| (t.val % 8)) % 8 := by decide
theorem f3_64 : ∀ t : Fin 64, pcN (t.val % 8) < pcN t.val ∨ (pcN (t.val % 8) = pcN t.val ∧ t.val % 8 ≤ t.val) := by decide
def pst (i : Nat) : Nat := [1, 2, 4, 3, 5, 6, 7].getD i 0
theorem f4_7 : ∀ i j : Fin 7, i.val ≤ j.val → pcN (pst i.val) < pcN (pst j.val) ∨ (pcN (pst i.val) = pcN (pst j.val) ∧ pst i.val ≤ pst j.val) := by decide
theorem f5_8 : ∀ l : Fin 8, l.val ≠ 0 → ∃ j : Fin 7, pst j.val = l.val := by decide
theorem f6_7 : ∀ i : Fin 7, sT_0.getD i.val 0 = nI (pst i.val) ∧ pst i.val < 8 := by decide
theorem ms_lo {W : WW} {k h t : Nat} (hh : h ≤ 63) (ht : t < 64) (ho : msO W k h t) : msO W k h (t % 8) := by
  have h2 := f2_64 ⟨t, ht⟩ ⟨h, by omega⟩
  have h2 : (h ||| t) % 8 = (h ||| (t % 8)) % 8 := h2
  refine ⟨f1_64 ⟨t, ht⟩ ⟨h, by omega⟩ ho.1, ?_⟩
  rw [lack_8 (or_lt hh (by omega)), ← h2, ← lack_8 (or_lt hh ht)]
  exact ho.2
theorem c_missing {W : WW} {S : CS} (hw : WOK W) (hS : tW W S) {k : Nat} (hk : k < W.V.n) (h0 : ¬ lack W k (nI (W.V.pa k)) = -1) : ∃ b S', L_X11_missing_47 (nI k) (nI (W.V.pa k)) 7 (fun S17 => some (-1, S17)) FU S 0 = some (b, S') ∧ gI [24] [48] S S' ∧ msP W k (W.V.pa k) 64 b := by
  have kb := vk hw.V hk
  have hn0 : ¬ msO W k (W.V.pa k) 0 := fun z => h0 (by have := z.2; rw [Nat.or_zero] at this; exact this)
  unfold L_X11_missing_47
  refine lq2 (Q := fun o => ∃ b S', o = some (b, S') ∧ gI [24] [48] S S' ∧ msP W k (W.V.pa k) 64 b) 7 (fun i S1 => gI [24] [48] S S1 ∧ ∀ j, j < i → ¬ msO W k (W.V.pa k) (pst j)) ?_ 0 rfl (Nat.zero_le _) (FU_gt (by omega)) ⟨gI_rf, fun j hj => by omega⟩
  rintro i S1 kk hi ⟨hg, hp⟩ hr
  by_cases c : i < 7
  · obtain ⟨p1, p2⟩ := f6_7 ⟨i, c⟩
    have p1 : sT_0.getD i 0 = nI (pst i) := p1
    have p2 : pst i < 8 := p2
    have hS1 := cqf_W hS (cqf_of hg (by decide) (by decide))
    have hand : W.V.pa k &&& pst i < 64 := Nat.lt_of_le_of_lt Nat.and_le_right (by omega)
    rw [if_neg (fun h => by rw [show (7 : Int32) = nI 7 from rfl, nI_leI (by omega) (by omega)] at h; omega), chk_nI c (by decide), nI_clamp (by omega), p1, lt_eq, nI_and, nI_or]
    have hr := fun s h1 h2 => hr s c ⟨h1, h2⟩
    have next : ¬ msO W k (W.V.pa k) (pst i) → ∀ j, j < i + 1 → ¬ msO W k (W.V.pa k) (pst j) := by
      intro hz j hj
      by_cases z : j = i
      · subst z; exact hz
      · exact hp j (by omega)
    by_cases ca : W.V.pa k &&& pst i = 0
    · obtain ⟨S2, g1, g2⟩ := c_lack hw hS1 hk (nI (W.V.pa k ||| pst i))
      have hg2 : gI [24] [48] S S2 := gI_tr hg g2 (by decide) (by decide)
      rw [if_pos (by rw [ca]; rfl), g1, bw_some]
      by_cases cl : lack W k (nI (W.V.pa k ||| pst i)) = -1
      · rw [if_pos cl]
        refine ⟨_, S2, rfl, hg2, Or.inr ⟨pst i, by omega, rfl, ⟨by rw [Nat.and_comm]; exact ca, cl⟩, fun t ht ho => ?_⟩⟩
        have hlo := ms_lo (by omega) ht ho
        have hne : t % 8 ≠ 0 := fun z => by rw [z] at hlo; exact hn0 hlo
        obtain ⟨j, hj⟩ := f5_8 ⟨t % 8, Nat.mod_lt _ (by decide)⟩ hne
        have hj : pst j.val = t % 8 := hj
        have hij : i ≤ j.val := by
          by_cases z : i ≤ j.val
          · exact z
          · exact absurd (by rw [hj]; exact hlo) (hp j.val (by omega))
        have q1 := f4_7 ⟨i, c⟩ j hij
        have q2 := f3_64 ⟨t, ht⟩
        have q1 : pcN (pst i) < pcN (pst j.val) ∨ (pcN (pst i) = pcN (pst j.val) ∧ pst i ≤ pst j.val) := q1
        have q2 : pcN (t % 8) < pcN t ∨ (pcN (t % 8) = pcN t ∧ t % 8 ≤ t) := q2
        rw [hj] at q1
        omega
      · rw [if_neg cl, lt_eq, nI_1]
        exact hr S2 hg2 (next (fun z => cl z.2))
    · rw [if_neg (show ¬ nI (W.V.pa k &&& pst i) = 0 from fun h => ca ((nI_eq (by omega) (by omega)).mp (show nI (W.V.pa k &&& pst i) = nI 0 from h))), lt_eq, nI_1]
      exact hr S1 hg (next (fun z => ca (by rw [Nat.and_comm]; exact z.1)))
  · have : i = 7 := by omega
    subst this
    rw [if_pos (by decide)]
    refine ⟨-1, S1, rfl, hg, Or.inl ⟨rfl, fun t ht ho => ?_⟩⟩
    have hlo := ms_lo (by omega) ht ho
    have hne : t % 8 ≠ 0 := fun z => by rw [z] at hlo; exact hn0 hlo
    obtain ⟨j, hj⟩ := f5_8 ⟨t % 8, Nat.mod_lt _ (by decide)⟩ hne
    have hj : pst j.val = t % 8 := hj
    exact hp j.val j.isLt (by rw [hj]; exact hlo)
theorem q_missing (T : XS) (M : MS) (a1 : Int32) (h : RLL T M) : ∃ (r : Int32) (T' : XS) (M' : MS), fo_missing T a1 = some (r, T') ∧ fm_missing M a1 = some (r, M') ∧ RLL T' M' := by
  obtain ⟨W, Ws, hh⟩ := id h
  have hV := hh.w.V
  unfold fo_missing fm_missing f_X11_missing f_X12_missing
  rw [c_hasMark hV hh.c.V, m_isMark hV hh.m.R, bp_some, bp_some]
  cases h1 : inR a1 W.V.n with
  | false => exact ⟨_, _, _, rfl, rfl, h⟩
  | true =>
    obtain ⟨k, hk, rfl⟩ := inR_nI h1
    have kb := vk hV hk
    obtain ⟨S1, c1, c2⟩ := c_lack hh.w hh.c hk (nI (W.V.pa k))
    obtain ⟨b, M', d1, d2, d3⟩ := m_missing hh.w hh.m hk
    rw [if_pos rfl, if_pos rfl, chk_nI (by omega) (by decide), nI_clamp (by omega), hh.c.V.pa k hk, lt_eq, c1, bw_some, m_o8 hV hh.m.R hk, bp_some, d1]
    have hq2 := mqf_of d2 (by decide) (by decide)
    by_cases z : lack W k (nI (W.V.pa k)) = -1
    · rw [if_pos z]
      have h0 : msO W k (W.V.pa k) 0 := ⟨Nat.zero_and _, by rw [Nat.or_zero]; exact z⟩
      have : b = 0 := msP_un d3 (Or.inr ⟨0, by decide, rfl, h0, fun t ht _ => by
        have : pcN 0 = 0 := by decide
        omega⟩)
      rw [this]
      exact ⟨_, _, _, rfl, rfl, RL_q h (cqf_of c2 (by decide) (by decide)) hq2⟩
    · rw [if_neg z]
      have hS1 := cqf_W hh.c (cqf_of c2 (by decide) (by decide))
      obtain ⟨b', S2, e1, e2, e3⟩ := c_missing hh.w hS1 hk z
      rw [e1, msP_un d3 e3]
      exact ⟨_, _, _, rfl, rfl, RL_q h (cqf_tr (cqf_of c2 (by decide) (by decide)) (cqf_of e2 (by decide) (by decide))) hq2⟩
