/-! sizes kept, and the world before a text -/
theorem i_shl {b j : Nat} {s : Int32} (hs : (s.toBitVec.smod 32).toNat = j) (h : b * 2 ^ j < 2 ^ 31) : nI b <<< s = nI (b * 2 ^ j) := by
  apply Int32.toBitVec_inj.mp
  rw [Int32.toBitVec_shiftLeft]
  apply BitVec.eq_of_toNat_eq
  have hb : b ≤ b * 2 ^ j := Nat.le_mul_of_pos_right _ (Nat.two_pow_pos j)
  have e1 : (nI b).toBitVec.toNat = b := Nat.mod_eq_of_lt (by omega)
  have e2 : (nI (b * 2 ^ j)).toBitVec.toNat = b * 2 ^ j := Nat.mod_eq_of_lt (by omega)
  rw [e2, BitVec.shiftLeft_eq', BitVec.toNat_shiftLeft, e1, hs, Nat.shiftLeft_eq]
  exact Nat.mod_eq_of_lt (by omega)
theorem l_shlN {b j : Nat} {s : Int64} (hs : (s.toBitVec.smod 64).toNat = j) (h : b * 2 ^ j < 2 ^ 63) : lN b <<< s = lN (b * 2 ^ j) := by
  apply Int64.toBitVec_inj.mp
  rw [Int64.toBitVec_shiftLeft]
  apply BitVec.eq_of_toNat_eq
  have hb : b ≤ b * 2 ^ j := Nat.le_mul_of_pos_right _ (Nat.two_pow_pos j)
  have e1 : (lN b).toBitVec.toNat = b := Nat.mod_eq_of_lt (by omega)
  have e2 : (lN (b * 2 ^ j)).toBitVec.toNat = b * 2 ^ j := Nat.mod_eq_of_lt (by omega)
  rw [e2, BitVec.shiftLeft_eq', BitVec.toNat_shiftLeft, e1, hs, Nat.shiftLeft_eq]
  exact Nat.mod_eq_of_lt (by omega)
theorem nI_64 {a : Nat} (h : a < 2 ^ 31) : (nI a).toInt64 = lN a := by
  apply Int64.toInt_inj.mp
  rw [Int32.toInt_toInt64, nI_toInt (by omega)]
  show (a : Int) = (BitVec.ofNat 64 a).toInt
  rw [BitVec.toInt_eq_toNat_of_lt (by rw [BitVec.toNat_ofNat]; omega), BitVec.toNat_ofNat, Nat.mod_eq_of_lt (by omega)]
theorem or_add {a b i : Nat} (h : a < 2 ^ i) : a ||| b * 2 ^ i = a + b * 2 ^ i := by
  rw [Nat.or_comm, ← Nat.shiftLeft_eq, ← Nat.shiftLeft_add_eq_or_of_lt h, Nat.add_comm]
theorem c_sizes {V : VW} {S : CS} (hV : VOK V) (h : tC V S) : f_X1_packedSizes S = some (lN (szN V.ne V.np V.na V.n)) := by
  have h1 := hV.ne
  have h2 := hV.np
  have h3 := hV.na
  have h4 := hV.n
  unfold f_X1_packedSizes
  rw [h.ne, h.np, h.na, h.n, i_shl (j := 8) (s := 8 &&& 31) (by decide) (by omega), i_shl (j := 16) (s := 16 &&& 31) (by decide) (by omega), nI_or, or_add (by omega), nI_or, or_add (by omega), nI_64 (by omega), nI_64 (by omega), l_shlN (j := 24) (s := (24 : Int32).toInt64 &&& 63) (by decide) (by omega), lN_or, or_add (by omega)]
  congr 2
  unfold szN; omega
theorem min_if {a b : Nat} {x : Int32} (hx : x = nI b) (h : a ≤ b) (hb : b < 2 ^ 31) : (if nI a < x then nI a else x) = nI a := by
  subst hx
  by_cases c : a < b
  · rw [if_pos ((nI_ltI (by omega) (by omega)).mpr c)]
  · rw [if_neg (fun z => by rw [nI_ltI (by omega) (by omega)] at z; omega), show b = a by omega]
def pre (W0 : WW) (W : WW) : Prop := (W0.V.ne ≤ W.V.ne) ∧ (W0.V.np ≤ W.V.np) ∧ (W0.V.na ≤ W.V.na) ∧ (W0.V.n ≤ W.V.n) ∧ (W.V.td = W0.V.td) ∧ (∀ i, i < W0.V.ne → W.V.e0 i = W0.V.e0 i) ∧ (∀ i, i < W0.V.ne → W.V.e1 i = W0.V.e1 i) ∧ (∀ i, i < W0.V.np → W.V.p0 i = W0.V.p0 i) ∧ (∀ i, i < W0.V.np → W.V.p1 i = W0.V.p1 i) ∧ (∀ i, i < W0.V.na → W.V.a0 i = W0.V.a0 i) ∧ (∀ i, i < W0.V.na → W.V.a1 i = W0.V.a1 i) ∧ (∀ i, i < W0.V.n → W.V.ev i = W0.V.ev i) ∧ (∀ i, i < W0.V.n → W.V.ath i = W0.V.ath i) ∧ (∀ i, i < W0.V.n → W.V.pl i = W0.V.pl i) ∧ (∀ i, i < W0.V.n → W.V.dy i = W0.V.dy i) ∧ (∀ i, i < W0.V.n → W.V.mi i = W0.V.mi i) ∧ (∀ i, i < W0.V.n → W.V.va i = W0.V.va i) ∧ (∀ i, i < W0.V.n → W.V.wi i = W0.V.wi i) ∧ (∀ i, i < W0.V.n → W.V.sh i = W0.V.sh i) ∧ (∀ i, i < W0.V.n → W.V.pa i = W0.V.pa i) ∧ (∀ i, i < W0.V.n → W.V.ra i = W0.V.ra i) ∧ (∀ i, i < W0.V.n → W.V.sk i = W0.V.sk i) ∧ (W.L.filter (fun y => decide (y < W0.V.n)) = W0.L) ∧ (W.2.2 = W0.2.2)
theorem pre.ne {W0 : WW} {W : WW} (h : pre W0 W) : W0.V.ne ≤ W.V.ne := h.1
theorem pre.np {W0 : WW} {W : WW} (h : pre W0 W) : W0.V.np ≤ W.V.np := h.2.1
theorem pre.na {W0 : WW} {W : WW} (h : pre W0 W) : W0.V.na ≤ W.V.na := h.2.2.1
theorem pre.n {W0 : WW} {W : WW} (h : pre W0 W) : W0.V.n ≤ W.V.n := h.2.2.2.1
theorem pre.td {W0 : WW} {W : WW} (h : pre W0 W) : W.V.td = W0.V.td := h.2.2.2.2.1
theorem pre.e0 {W0 : WW} {W : WW} (h : pre W0 W) : ∀ i, i < W0.V.ne → W.V.e0 i = W0.V.e0 i := h.2.2.2.2.2.1
theorem pre.e1 {W0 : WW} {W : WW} (h : pre W0 W) : ∀ i, i < W0.V.ne → W.V.e1 i = W0.V.e1 i := h.2.2.2.2.2.2.1
theorem pre.p0 {W0 : WW} {W : WW} (h : pre W0 W) : ∀ i, i < W0.V.np → W.V.p0 i = W0.V.p0 i := h.2.2.2.2.2.2.2.1
theorem pre.p1 {W0 : WW} {W : WW} (h : pre W0 W) : ∀ i, i < W0.V.np → W.V.p1 i = W0.V.p1 i := h.2.2.2.2.2.2.2.2.1
theorem pre.a0 {W0 : WW} {W : WW} (h : pre W0 W) : ∀ i, i < W0.V.na → W.V.a0 i = W0.V.a0 i := h.2.2.2.2.2.2.2.2.2.1
theorem pre.a1 {W0 : WW} {W : WW} (h : pre W0 W) : ∀ i, i < W0.V.na → W.V.a1 i = W0.V.a1 i := h.2.2.2.2.2.2.2.2.2.2.1
theorem pre.ev {W0 : WW} {W : WW} (h : pre W0 W) : ∀ i, i < W0.V.n → W.V.ev i = W0.V.ev i := h.2.2.2.2.2.2.2.2.2.2.2.1
theorem pre.ath {W0 : WW} {W : WW} (h : pre W0 W) : ∀ i, i < W0.V.n → W.V.ath i = W0.V.ath i := h.2.2.2.2.2.2.2.2.2.2.2.2.1
theorem pre.pl {W0 : WW} {W : WW} (h : pre W0 W) : ∀ i, i < W0.V.n → W.V.pl i = W0.V.pl i := h.2.2.2.2.2.2.2.2.2.2.2.2.2.1
theorem pre.dy {W0 : WW} {W : WW} (h : pre W0 W) : ∀ i, i < W0.V.n → W.V.dy i = W0.V.dy i := h.2.2.2.2.2.2.2.2.2.2.2.2.2.2.1
theorem pre.mi {W0 : WW} {W : WW} (h : pre W0 W) : ∀ i, i < W0.V.n → W.V.mi i = W0.V.mi i := h.2.2.2.2.2.2.2.2.2.2.2.2.2.2.2.1
theorem pre.va {W0 : WW} {W : WW} (h : pre W0 W) : ∀ i, i < W0.V.n → W.V.va i = W0.V.va i := h.2.2.2.2.2.2.2.2.2.2.2.2.2.2.2.2.1
theorem pre.wi {W0 : WW} {W : WW} (h : pre W0 W) : ∀ i, i < W0.V.n → W.V.wi i = W0.V.wi i := h.2.2.2.2.2.2.2.2.2.2.2.2.2.2.2.2.2.1
theorem pre.sh {W0 : WW} {W : WW} (h : pre W0 W) : ∀ i, i < W0.V.n → W.V.sh i = W0.V.sh i := h.2.2.2.2.2.2.2.2.2.2.2.2.2.2.2.2.2.2.1
theorem pre.pa {W0 : WW} {W : WW} (h : pre W0 W) : ∀ i, i < W0.V.n → W.V.pa i = W0.V.pa i := h.2.2.2.2.2.2.2.2.2.2.2.2.2.2.2.2.2.2.2.1
theorem pre.ra {W0 : WW} {W : WW} (h : pre W0 W) : ∀ i, i < W0.V.n → W.V.ra i = W0.V.ra i := h.2.2.2.2.2.2.2.2.2.2.2.2.2.2.2.2.2.2.2.2.1
theorem pre.sk {W0 : WW} {W : WW} (h : pre W0 W) : ∀ i, i < W0.V.n → W.V.sk i = W0.V.sk i := h.2.2.2.2.2.2.2.2.2.2.2.2.2.2.2.2.2.2.2.2.2.1
theorem pre.L {W0 : WW} {W : WW} (h : pre W0 W) : W.L.filter (fun y => decide (y < W0.V.n)) = W0.L := h.2.2.2.2.2.2.2.2.2.2.2.2.2.2.2.2.2.2.2.2.2.2.1
theorem pre.fm {W0 : WW} {W : WW} (h : pre W0 W) : W.2.2 = W0.2.2 := h.2.2.2.2.2.2.2.2.2.2.2.2.2.2.2.2.2.2.2.2.2.2.2
theorem c_cut {W W0 : WW} {S : CS} (hw : WOK W) (hw0 : WOK W0) (hp : pre W0 W) (hS : tW W S) : ∃ S', f_X1_cutToSizes S (lN (szN W0.V.ne W0.V.np W0.V.na W0.V.n)) = some S' ∧ tW W0 S' ∧ gI [6, 7, 8, 9] [24] S S' := by
  have h1 := hw.V.ne
  have h2 := hw.V.np
  have h3 := hw.V.na
  have h4 := hw.V.n
  have g1 := hw0.V.ne
  have g2 := hw0.V.np
  have g3 := hw0.V.na
  have g4 := hw0.V.n
  have p1 := hp.ne
  have p2 := hp.np
  have p3 := hp.na
  have p4 := hp.n
  have q0 := sz_0 (a := W0.V.ne) (b := W0.V.np) (c := W0.V.na) (d := W0.V.n) (by omega) (by omega) (by omega) (by omega)
  have q8 : ((lN (szN W0.V.ne W0.V.np W0.V.na W0.V.n) >>> ((8 : Int32).toInt64 &&& 63)) &&& 255).toInt32 = nI W0.V.np := (sz_k (k := 8) (by omega) (by omega) (by omega) (by omega) (by decide)).trans (by congr 1; unfold szN; omega)
  have q16 : ((lN (szN W0.V.ne W0.V.np W0.V.na W0.V.n) >>> ((16 : Int32).toInt64 &&& 63)) &&& 255).toInt32 = nI W0.V.na := (sz_k (k := 16) (by omega) (by omega) (by omega) (by omega) (by decide)).trans (by congr 1; unfold szN; omega)
  have q24 : ((lN (szN W0.V.ne W0.V.np W0.V.na W0.V.n) >>> ((24 : Int32).toInt64 &&& 63)) &&& 255).toInt32 = nI W0.V.n := (sz_k (k := 24) (by omega) (by omega) (by omega) (by omega) (by decide)).trans (by congr 1; unfold szN; omega)
  unfold f_X1_cutToSizes
  rw [q0, q8, q16, q24, min_if hS.V.ne p1 (by omega), lt_eq, min_if (show (ci S 7 (nI W0.V.ne)).1 8 = nI W.V.np from hS.V.np) p2 (by omega), lt_eq, min_if (show (ci (ci S 7 (nI W0.V.ne)) 8 (nI W0.V.np)).1 9 = nI W.V.na from hS.V.na) p3 (by omega), lt_eq, min_if (show (ci (ci (ci S 7 (nI W0.V.ne)) 8 (nI W0.V.np)) 9 (nI W0.V.na)).1 6 = nI W.V.n from hS.V.n) p4 (by omega), lt_eq]
  obtain ⟨S', l1, l2, l3⟩ := c_cutL (S := ci (ci (ci S 7 (nI W0.V.ne)) 8 (nI W0.V.np)) 9 (nI W0.V.na)) (L := W.L) (n0 := W0.V.n) (K := fun S17 => lt (ci S17 6 (nI W0.V.n)) fun S18 => some S18) (by rw [hw.le]; exact h4) (fun y hy => by have := (hw.me y).mp hy; omega) g4 (by rw [hw.le]; exact hS.V.n) hS.o
  rw [show (0 : Int32) = nI 0 from rfl, l1, lt_eq]
  have G0 : gI [6, 7, 8, 9] [24] S S' := gI_tr (gI_ci (gI_ci (gI_ci gI_rf (by decide)) (by decide)) (by decide)) l2 (by decide) (by decide)
  have G : gI [6, 7, 8, 9] [24] S (ci S' 6 (nI W0.V.n)) := gI_ci G0 (by decide)
  have f1 : W.ne = W0.ne := congrArg (fun x => x.1) hp.fm
  have f2 : W.nc = W0.nc := congrArg (fun x => x.2.1) hp.fm
  have f3 : W.se = W0.se := congrArg (fun x => x.2.2.1) hp.fm
  have f4 : W.sc = W0.sc := congrArg (fun x => x.2.2.2.1) hp.fm
  refine ⟨_, rfl, ⟨⟨?_, ?_, ?_, ?_, rfl, ?_, ?_, ?_, ?_, ?_, ?_, ?_, ?_, ?_, ?_, ?_, ?_, ?_, ?_, ?_, ?_, ?_⟩, ?_, ?_, ?_, ?_, ?_, ?_, ?_, ?_, ?_⟩, G⟩
  · rw [G.1 0 (by decide), hS.V.td, hp.td]
  · exact l2.1 7 (by decide)
  · exact l2.1 8 (by decide)
  · exact l2.1 9 (by decide)
  · exact fun i hi => by rw [G.2.1 5 (by decide), hS.V.e0 i (by omega), hp.e0 i hi]
  · exact fun i hi => by rw [G.2.1 6 (by decide), hS.V.e1 i (by omega), hp.e1 i hi]
  · exact fun i hi => by rw [G.2.1 8 (by decide), hS.V.p0 i (by omega), hp.p0 i hi]
  · exact fun i hi => by rw [G.2.1 9 (by decide), hS.V.p1 i (by omega), hp.p1 i hi]
  · exact fun i hi => by rw [G.2.1 11 (by decide), hS.V.a0 i (by omega), hp.a0 i hi]
  · exact fun i hi => by rw [G.2.1 12 (by decide), hS.V.a1 i (by omega), hp.a1 i hi]
  · exact fun i hi => by rw [G.2.1 13 (by decide), hS.V.ev i (by omega), hp.ev i hi]
  · exact fun i hi => by rw [G.2.1 14 (by decide), hS.V.ath i (by omega), hp.ath i hi]
  · exact fun i hi => by rw [G.2.1 15 (by decide), hS.V.pl i (by omega), hp.pl i hi]
  · exact fun i hi => by rw [G.2.1 16 (by decide), hS.V.dy i (by omega), hp.dy i hi]
  · exact fun i hi => by rw [G.2.1 17 (by decide), hS.V.mi i (by omega), hp.mi i hi]
  · exact fun i hi => by rw [G.2.1 18 (by decide), hS.V.va i (by omega), hp.va i hi]
  · exact fun i hi => by rw [G.2.1 19 (by decide), hS.V.wi i (by omega), hp.wi i hi]
  · exact fun i hi => by rw [G.2.1 20 (by decide), hS.V.sh i (by omega), hp.sh i hi]
  · exact fun i hi => by rw [G.2.1 21 (by decide), hS.V.pa i (by omega), hp.pa i hi]
  · exact fun i hi => by rw [G.2.1 22 (by decide), hS.V.ra i (by omega), hp.ra i hi]
  · exact fun i hi => by rw [G.2.1 23 (by decide), hS.V.sk i (by omega), hp.sk i hi]
  · rw [← hp.L]; exact l3
  · rw [G.2.2, ← f1]; exact hS.nl
  · rw [G.2.1 47 (by decide), ← f1]; exact hS.ne
  · rw [G.2.2, ← f2]; exact hS.ncl
  · rw [G.2.1 46 (by decide), ← f2]; exact hS.nc
  · rw [G.2.2, ← f3]; exact hS.sl
  · rw [G.2.1 51 (by decide), ← f3]; exact hS.se
  · rw [G.2.2, ← f4]; exact hS.scl
  · rw [G.2.1 50 (by decide), ← f4]; exact hS.sc
/-- a text's deed is taken back -/
theorem dOK_text {W W0 : WW} (hw : WOK W) (hw0 : WOK W0) (hp : pre W0 W) : dOK (0, -1, -1, lN (szN W0.V.ne W0.V.np W0.V.na W0.V.n), none) W W0 := by
  intro S hS
  obtain ⟨S', u1, u2, u3⟩ := c_cut hw hw0 hp hS
  refine ⟨S', ?_, u2, ?_⟩
  · show f_X11_undo_0 S _ = _
    unfold f_X11_undo_0
    rw [u1]; rfl
  · exact ⟨fun k hk => u3.1 k (fun z => hk ((by decide : ∀ k ∈ [6, 7, 8, 9], k ∈ [0, 6, 7, 8, 9, 24, 25]) k z)), fun k hk => u3.2.1 k (fun z => hk ((by decide : ∀ k ∈ [24], k ∈ [21, 22, 23, 24, 46, 47, 48, 50, 51, 52]) k z))⟩
