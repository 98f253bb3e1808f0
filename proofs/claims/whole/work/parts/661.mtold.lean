/-! a mark is told -/
def VW.adm (V : VW) (v : Nat → Int32) : VW := (V.ne, V.np, V.na, V.n + 1, V.td, V.e0, V.e1, V.p0, V.p1, V.a0, V.a1, upN V.ev V.n (v 0).toNatClampNeg, upN V.ath V.n (v 1).toNatClampNeg, upN V.pl V.n (v 2).toNatClampNeg, upN V.dy V.n (v 3).toNatClampNeg, upN V.mi V.n (v 4).toNatClampNeg, upN V.va V.n (v 5).toNatClampNeg, upN V.wi V.n (v 6), upN V.sh V.n (v 7), upN V.pa V.n (v 8).toNatClampNeg, upN V.ra V.n (-1), upN V.sk V.n (-1))
def WW.adm (W : WW) (v : Nat → Int32) (i : Nat) : WW := (W.V.adm v, W.L.take i ++ W.V.n :: W.L.drop i, W.2.2)
theorem nn_x {x : Int32} (h : 0 ≤ x.toInt) : x = nI x.toNatClampNeg ∧ (x.toNatClampNeg : Int) = x.toInt := by
  have e : (x.toNatClampNeg : Int) = x.toInt := Int.toNat_of_nonneg h
  have hl := Int32.toInt_lt x
  refine ⟨Int32.toInt_inj.mp ?_, e⟩
  rw [nI_toInt (by omega), e]
def mO (V : VW) (v : Nat → Int32) : Prop := (v 0 = nI (v 0).toNatClampNeg ∧ (v 0).toNatClampNeg < V.ne) ∧ (v 1 = nI (v 1).toNatClampNeg ∧ (v 1).toNatClampNeg < V.na) ∧ (v 2 = nI (v 2).toNatClampNeg ∧ (v 2).toNatClampNeg < V.np) ∧ (v 3 = nI (v 3).toNatClampNeg ∧ (v 3).toNatClampNeg ≤ V.td) ∧ (v 4 = nI (v 4).toNatClampNeg ∧ (v 4).toNatClampNeg ≤ 1439) ∧ (v 5 = nI (v 5).toNatClampNeg ∧ 1 ≤ (v 5).toNatClampNeg ∧ (v 5).toNatClampNeg ≤ 1000000) ∧ (v 8 = nI (v 8).toNatClampNeg ∧ (v 8).toNatClampNeg ≤ 63)
theorem mO.ev {V : VW} {v : Nat → Int32} (h : mO V v) : v 0 = nI (v 0).toNatClampNeg ∧ (v 0).toNatClampNeg < V.ne := h.1
theorem mO.ath {V : VW} {v : Nat → Int32} (h : mO V v) : v 1 = nI (v 1).toNatClampNeg ∧ (v 1).toNatClampNeg < V.na := h.2.1
theorem mO.pl {V : VW} {v : Nat → Int32} (h : mO V v) : v 2 = nI (v 2).toNatClampNeg ∧ (v 2).toNatClampNeg < V.np := h.2.2.1
theorem mO.dy {V : VW} {v : Nat → Int32} (h : mO V v) : v 3 = nI (v 3).toNatClampNeg ∧ (v 3).toNatClampNeg ≤ V.td := h.2.2.2.1
theorem mO.mi {V : VW} {v : Nat → Int32} (h : mO V v) : v 4 = nI (v 4).toNatClampNeg ∧ (v 4).toNatClampNeg ≤ 1439 := h.2.2.2.2.1
theorem mO.va {V : VW} {v : Nat → Int32} (h : mO V v) : v 5 = nI (v 5).toNatClampNeg ∧ 1 ≤ (v 5).toNatClampNeg ∧ (v 5).toNatClampNeg ≤ 1000000 := h.2.2.2.2.2.1
theorem mO.pa {V : VW} {v : Nat → Int32} (h : mO V v) : v 8 = nI (v 8).toNatClampNeg ∧ (v 8).toNatClampNeg ≤ 63 := h.2.2.2.2.2.2
theorem mO_of {V : VW} {v : Nat → Int32} (hV : VOK V) (hv : ∀ i, i < 9 → bnd (v i) (loI 3 i) (hiI V 3 i) = true) : mO V v := by
  have q1 := hV.ne
  have q2 := hV.np
  have q3 := hV.na
  have q4 := hV.td
  refine ⟨?_, ?_, ?_, ?_, ?_, ?_, ?_⟩
  · have b := bnd_b (hv 0 (by decide))
    rw [show (loI 3 0).toInt = 0 from rfl, show hiI V 3 0 = nI V.ne - 1 from rfl, nI_sub1 (by omega)] at b
    obtain ⟨e1, e2⟩ := nn_x (x := v 0) (by omega)
    exact ⟨e1, by omega⟩
  · have b := bnd_b (hv 1 (by decide))
    rw [show (loI 3 1).toInt = 0 from rfl, show hiI V 3 1 = nI V.na - 1 from rfl, nI_sub1 (by omega)] at b
    obtain ⟨e1, e2⟩ := nn_x (x := v 1) (by omega)
    exact ⟨e1, by omega⟩
  · have b := bnd_b (hv 2 (by decide))
    rw [show (loI 3 2).toInt = 0 from rfl, show hiI V 3 2 = nI V.np - 1 from rfl, nI_sub1 (by omega)] at b
    obtain ⟨e1, e2⟩ := nn_x (x := v 2) (by omega)
    exact ⟨e1, by omega⟩
  · have b := bnd_b (hv 3 (by decide))
    rw [show (loI 3 3).toInt = 0 from rfl, show hiI V 3 3 = nI V.td from rfl, nI_toInt (by omega)] at b
    obtain ⟨e1, e2⟩ := nn_x (x := v 3) (by omega)
    exact ⟨e1, by omega⟩
  · have b := bnd_b (hv 4 (by decide))
    rw [show (loI 3 4).toInt = 0 from rfl, show (hiI V 3 4).toInt = 1439 from rfl] at b
    obtain ⟨e1, e2⟩ := nn_x (x := v 4) (by omega)
    exact ⟨e1, by omega⟩
  · have b := bnd_b (hv 5 (by decide))
    rw [show (loI 3 5).toInt = 1 from rfl, show (hiI V 3 5).toInt = 1000000 from rfl] at b
    obtain ⟨e1, e2⟩ := nn_x (x := v 5) (by omega)
    exact ⟨e1, by omega, by omega⟩
  · have b := bnd_b (hv 8 (by decide))
    rw [show (loI 3 8).toInt = 0 from rfl, show (hiI V 3 8).toInt = 63 from rfl] at b
    obtain ⟨e1, e2⟩ := nn_x (x := v 8) (by omega)
    exact ⟨e1, by omega⟩
theorem VOK_m {W : WW} (hw : WOK W) (v : Nat → Int32) (hm : W.V.n < 60) (hv : mO W.V v) : VOK (W.V.adm v) := by
  have hV := hw.V
  refine ⟨hV.ne, hV.np, hV.na, hm, hV.td, hV.e0, hV.a0, ?_, ?_, ?_, ?_, ?_, ?_, ?_, ?_, ?_⟩
  · intro k hk
    have hk : k < W.V.n + 1 := hk
    show upN W.V.ev W.V.n _ k < _
    by_cases z : k = W.V.n
    · subst z
      rw [upN_e]
      exact hv.ev.2
    · rw [upN_n z]; exact hV.ev k (by omega)
  · intro k hk
    have hk : k < W.V.n + 1 := hk
    show upN W.V.ath W.V.n _ k < _
    by_cases z : k = W.V.n
    · subst z
      rw [upN_e]
      exact hv.ath.2
    · rw [upN_n z]; exact hV.ath k (by omega)
  · intro k hk
    have hk : k < W.V.n + 1 := hk
    show upN W.V.pl W.V.n _ k < _
    by_cases z : k = W.V.n
    · subst z
      rw [upN_e]
      exact hv.pl.2
    · rw [upN_n z]; exact hV.pl k (by omega)
  · intro k hk
    have hk : k < W.V.n + 1 := hk
    show upN W.V.dy W.V.n _ k ≤ _
    by_cases z : k = W.V.n
    · subst z
      rw [upN_e]
      exact hv.dy.2
    · rw [upN_n z]; exact hV.dy k (by omega)
  · intro k hk
    have hk : k < W.V.n + 1 := hk
    show upN W.V.mi W.V.n _ k ≤ _
    by_cases z : k = W.V.n
    · subst z
      rw [upN_e]
      exact hv.mi.2
    · rw [upN_n z]; exact hV.mi k (by omega)
  · intro k hk
    have hk : k < W.V.n + 1 := hk
    show 1 ≤ upN W.V.va W.V.n _ k ∧ upN W.V.va W.V.n _ k ≤ _
    by_cases z : k = W.V.n
    · subst z
      rw [upN_e]
      exact hv.va.2
    · rw [upN_n z]; exact hV.va k (by omega)
  · intro k hk
    have hk : k < W.V.n + 1 := hk
    show upN W.V.pa W.V.n _ k ≤ _
    by_cases z : k = W.V.n
    · subst z
      rw [upN_e]
      exact hv.pa.2
    · rw [upN_n z]; exact hV.pa k (by omega)
  · intro k hk
    have hk : k < W.V.n + 1 := hk
    show upN W.V.ra W.V.n _ k = -1 ∨ ∃ d, d ≤ W.V.td ∧ upN W.V.ra W.V.n _ k = nI d
    by_cases z : k = W.V.n
    · subst z
      rw [upN_e]
      exact Or.inl rfl
    · rw [upN_n z]; exact hV.ra k (by omega)
  · intro k hk
    have hk : k < W.V.n + 1 := hk
    show upN W.V.sk W.V.n _ k = -1 ∨ ∃ d, d ≤ W.V.td ∧ upN W.V.sk W.V.n _ k = nI d
    by_cases z : k = W.V.n
    · subst z
      rw [upN_e]
      exact Or.inl rfl
    · rw [upN_n z]; exact hV.sk k (by omega)
