/-! the reference's row of those that are asked for -/
def vSel (V : VW) (ad lf : Int32) (e s : Nat) (d : Int32) (k : Nat) : Bool := decide (V.ev k = e) && !(nI k == lf) && (nI k == ad || vStand V k d) && vWith V k s
theorem getD_mem {l : List Nat} {i : Nat} (h : i < l.length) : l.getD i 0 ∈ l := by
  have : l.getD i 0 = l[i] := by rw [List.getD_eq_getElem?_getD, List.getElem?_eq_getElem h]; rfl
  rw [this]; exact List.getElem_mem _
/-- a mark goes into a sorted row where it belongs -/
theorem srt_ins {V : VW} {l : List Nat} {x i : Nat} (hs : srt V l) (hx : x ∉ l) (hi : i ≤ l.length) (h1 : ∀ j, i ≤ j → j < l.length → vAhead V x (l.getD j 0) = true) (h2 : i = 0 ∨ vAhead V x (l.getD (i - 1) 0) = false) : srt V (l.take i ++ x :: l.drop i) := by
  have hsp : srt V (l.take i ++ l.drop i) := by rw [List.take_append_drop]; exact hs
  obtain ⟨p1, p2, p3⟩ := List.pairwise_append.mp hsp
  have hd : ∀ b ∈ l.drop i, vAhead V x b = true := by
    intro b hb
    obtain ⟨j, hj, rfl⟩ := List.mem_iff_getElem.mp hb
    rw [List.getElem_drop]
    rw [List.length_drop] at hj
    have := h1 (i + j) (by omega) (by omega)
    rw [List.getD_eq_getElem?_getD, List.getElem?_eq_getElem (by omega)] at this
    exact this
  have ht : ∀ a ∈ l.take i, vAhead V a x = true := by
    intro a ha
    obtain ⟨j, hj, rfl⟩ := List.mem_iff_getElem.mp ha
    rw [List.length_take] at hj
    rw [List.getElem_take]
    rcases h2 with h | h
    · omega
    · have hl : i - 1 < l.length := by omega
      rw [List.getD_eq_getElem?_getD, List.getElem?_eq_getElem hl] at h
      have hq : vAhead V l[i - 1] x = true := vA_tot h (fun e => hx (by rw [e]; exact List.getElem_mem _))
      by_cases e : j = i - 1
      · subst e; exact hq
      · exact vA_tr (List.pairwise_iff_getElem.mp hs j (i - 1) (by omega) hl (by omega)) hq
  refine List.pairwise_append.mpr ⟨p1, List.pairwise_cons.mpr ⟨hd, p2⟩, ?_⟩
  intro a ha b hb
  rcases List.mem_cons.mp hb with rfl | hb
  · exact ht a ha
  · exact p3 a ha b hb
theorem hold_ins {f : Nat → Int32} {l : List Nat} {x i : Nat} (hi : i ≤ l.length) (h1 : ∀ j, j < i → f j = nI (l.getD j 0)) (h2 : ∀ j, i ≤ j → j < l.length → f (j + 1) = nI (l.getD j 0)) : hold (upd f i (nI x)) (l.take i ++ x :: l.drop i) := by
  intro j hj
  rw [List.length_append, List.length_cons, List.length_take, List.length_drop] at hj
  have hm : min i l.length = i := by omega
  rw [List.getD_eq_getElem?_getD, List.getElem?_append, List.length_take, hm]
  by_cases c : j < i
  · rw [if_pos c, pk_un (by omega), h1 j c, List.getElem?_take, if_pos c, List.getD_eq_getElem?_getD]
  · rw [if_neg c]
    by_cases e : j = i
    · subst e
      rw [pk_us, Nat.sub_self]; rfl
    · obtain ⟨t, rfl⟩ : ∃ t, j = t + 1 := ⟨j - 1, by omega⟩
      rw [pk_un e, h2 t (by omega) (by omega), show t + 1 - i = (t - i) + 1 by omega, List.getElem?_cons_succ, List.getElem?_drop, show i + (t - i) = t by omega, List.getD_eq_getElem?_getD]
