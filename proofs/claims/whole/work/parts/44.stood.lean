/-! stood, progress -/
noncomputable def lvD (V : VW) (l : List Nat) (d i : Nat) : Int32 := nI (dN V l d (lvE V l i)) - nI (dN V l d i)
noncomputable def sdF (V : VW) (l : List Nat) (d i : Nat) (x : Int32) : Int32 := if tie V l i = true then x else if x = -1 then nI i else if lvD V l d i ≤ lvD V l d x.toNatClampNeg then x else nI i
theorem itN_ix {f : Nat → Int32 → Int32} (hf : ∀ i x, f i x = x ∨ f i x = nI i) (n : Nat) : itN f (-1) n = -1 ∨ ∃ t, t < n ∧ itN f (-1) n = nI t := by
  induction n with
  | zero => exact Or.inl rfl
  | succ n ih =>
    show f n (itN f (-1) n) = -1 ∨ ∃ t, t < n + 1 ∧ f n (itN f (-1) n) = nI t
    rcases hf n (itN f (-1) n) with h | h
    · rw [h]
      rcases ih with h2 | ⟨t, h2, h3⟩
      · exact Or.inl h2
      · exact Or.inr ⟨t, by omega, h3⟩
    · rw [h]; exact Or.inr ⟨n, by omega, rfl⟩
theorem sdF_ix {V : VW} {l : List Nat} {d : Nat} (i : Nat) (x : Int32) : sdF V l d i x = x ∨ sdF V l d i x = nI i := by
  unfold sdF
  split
  · exact Or.inl rfl
  · split
    · exact Or.inr rfl
    · split
      · exact Or.inl rfl
      · exact Or.inr rfl
theorem c_stood {V : VW} {S : CS} {l : List Nat} {d : Nat} (hV : VOK V) (hS : tC V S) (hl : ∀ y, y ∈ l → y < V.n) (h60 : l.length ≤ 60) (hc : linC S l) : f_X7_longestLevel_l1 S (nI d) = some (itN (sdF V l d) (-1) l.length) := by
  unfold f_X7_longestLevel_l1 L_X7_longestLevel_l1_4
  refine lf1 (sdF V l d) (-1) 0 l.length (FU_gt (by omega)) ?_ ?_ rfl rfl (Nat.zero_le _)
  · intro i kk h1 h2
    have hix := itN_ix (sdF_ix (V := V) (l := l) (d := d)) i
    generalize itN (sdF V l d) (-1) i = x at hix
    simp only [hc.1, c_tie hV hS hl h60 hc (show i ≤ 60 by omega), c_daysOf hV hS hl h60 hc h2, bp_some, lt_eq, nI_1, jn0]
    rw [if_neg (fun h => by rw [nI_leI (by omega) (by omega)] at h; omega)]
    unfold sdF
    by_cases c : tie V l i = true
    · rw [if_pos c, if_pos c]
    · rw [if_neg c, if_neg c]
      rcases hix with rfl | ⟨t, ht, rfl⟩
      · rw [if_pos rfl, if_pos rfl]
      · rw [if_neg (nI_nm1 (by omega)), if_neg (nI_nm1 (by omega)), c_daysOf hV hS hl h60 hc (show t < l.length by omega), bp_some, nI_clamp (by omega)]
        unfold lvD
        split <;> rfl
  · intro kk
    rw [hc.1, if_pos ((nI_leI (by omega) (by omega)).mpr (by omega))]
def mkO (l : List Nat) (x : Int32) : Int32 := if x = -1 then -1 else nI (l.getD x.toNatClampNeg 0)
theorem m_stood {V : VW} {M : MS} {l : List Nat} {d : Nat} {kk0 : Int32 → Int32 → Option (Int32 × MS)} (hV : VOK V) (hR : tR V (M.2 0)) (hl : ∀ y, y ∈ l → y < V.n) (h60 : l.length ≤ 60) (hc : linM M l) : L_X12_stood_39 M (nI d) kk0 FU (-1) 0 0 = kk0 (mkO l (itN (sdF V l d) (-1) l.length)) (if itN (sdF V l d) (-1) l.length = -1 then 0 else lvD V l d (itN (sdF V l d) (-1) l.length).toNatClampNeg) := by
  unfold L_X12_stood_39
  refine lq3 (Q := fun o => o = kk0 (mkO l (itN (sdF V l d) (-1) l.length)) (if itN (sdF V l d) (-1) l.length = -1 then 0 else lvD V l d (itN (sdF V l d) (-1) l.length).toNatClampNeg)) l.length (fun i x y => x = mkO l (itN (sdF V l d) (-1) i) ∧ y = (if itN (sdF V l d) (-1) i = -1 then 0 else lvD V l d (itN (sdF V l d) (-1) i).toNatClampNeg)) ?_ 0 rfl (Nat.zero_le _) (FU_gt (by omega)) ⟨rfl, rfl⟩
  rintro i x y kk hi ⟨rfl, rfl⟩ hr
  by_cases c0 : i < l.length
  · have hk := hl _ (getD_mem c0)
    have hb := vk hV hk
    have hr := fun a b => hr a b c0
    have hs : itN (sdF V l d) (-1) (i + 1) = sdF V l d i (itN (sdF V l d) (-1) i) := rfl
    rw [hs] at hr
    have hix := itN_ix (sdF_ix (V := V) (l := l) (d := d)) i
    generalize itN (sdF V l d) (-1) i = x at hix hr
    have eD : nI (dN V l d (lvE V l i)) - nI (V.dy (l.getD i 0)) = lvD V l d i := by unfold lvD; rw [show dN V l d i = V.dy (l.getD i 0) from if_pos c0]
    have hnew : sdF V l d i x = nI i → kk (nI (l.getD i 0)) (lvD V l d i) (nI (i + 1)) = kk0 (mkO l (itN (sdF V l d) (-1) l.length)) (if itN (sdF V l d) (-1) l.length = -1 then 0 else lvD V l d (itN (sdF V l d) (-1) l.length).toNatClampNeg) := fun h => hr _ _ ⟨by rw [h]; unfold mkO; rw [if_neg (nI_nm1 (by omega)), nI_clamp (by omega)], by rw [h, if_neg (nI_nm1 (by omega)), nI_clamp (by omega)]⟩
    have hold' : sdF V l d i x = x → kk (mkO l x) (if x = -1 then 0 else lvD V l d x.toNatClampNeg) (nI (i + 1)) = kk0 (mkO l (itN (sdF V l d) (-1) l.length)) (if itN (sdF V l d) (-1) l.length = -1 then 0 else lvD V l d (itN (sdF V l d) (-1) l.length).toNatClampNeg) := fun h => hr _ _ ⟨by rw [h], by rw [h]⟩
    simp only [hc.1, bp_some, lt_eq, nI_1, jn0, chk_nI (show i < 60 by omega) (by decide), nI_clamp (show i < 2 ^ 31 by omega), hc.2 i c0, m_o3 hV hR hk, m_endOf hV hR hl h60 hc c0, m_value hV hR hl h60 hc c0, eD]
    rw [if_neg (fun h => by rw [nI_leI (by omega) (by omega)] at h; omega)]
    have hmid : ¬ tie V l i = true → (if mkO l x = -1 then kk (nI (l.getD i 0)) (lvD V l d i) (nI (i + 1)) else if (if x = -1 then 0 else lvD V l d x.toNatClampNeg) < lvD V l d i then kk (nI (l.getD i 0)) (lvD V l d i) (nI (i + 1)) else kk (mkO l x) (if x = -1 then 0 else lvD V l d x.toNatClampNeg) (nI (i + 1))) = kk0 (mkO l (itN (sdF V l d) (-1) l.length)) (if itN (sdF V l d) (-1) l.length = -1 then 0 else lvD V l d (itN (sdF V l d) (-1) l.length).toNatClampNeg) := by
      intro ct
      by_cases cx : x = -1
      · rw [if_pos (by rw [cx]; rfl)]
        exact hnew (by unfold sdF; rw [if_neg ct, if_pos cx])
      · rcases hix with h | ⟨t, htt, h⟩
        · exact absurd h cx
        · have hbt := vk hV (hl _ (getD_mem (l := l) (i := t) (by omega)))
          have : ¬ mkO l x = -1 := by unfold mkO; rw [if_neg cx, h, nI_clamp (by omega)]; exact nI_nm1 (by omega)
          rw [if_neg this]
          by_cases cl : lvD V l d i ≤ lvD V l d x.toNatClampNeg
          · rw [if_neg (fun hh => by rw [if_neg cx] at hh; rw [Int32.lt_iff_toInt_lt] at hh; rw [Int32.le_iff_toInt_le] at cl; omega)]
            exact hold' (by unfold sdF; rw [if_neg ct, if_neg cx, if_pos cl])
          · rw [if_pos (by rw [if_neg cx]; rw [Int32.lt_iff_toInt_lt]; rw [Int32.le_iff_toInt_le] at cl; omega)]
            exact hnew (by unfold sdF; rw [if_neg ct, if_neg cx, if_neg cl])
    cases i with
    | zero => rw [if_pos (show nI 0 ≤ 0 by decide)]; exact hmid (fun h => by have := (of_decide_eq_true h).1; omega)
    | succ j =>
      have hbj := vk hV (hl _ (getD_mem (l := l) (i := j) (by omega)))
      rw [if_neg (nI_nle (by omega) (by omega)), nI_pred, m_value hV hR hl h60 hc (show j < l.length by omega), bp_some]
      by_cases ct : V.va (l.getD (j + 1) 0) = V.va (l.getD j 0)
      · rw [if_pos (by rw [ct])]
        exact hold' (by unfold sdF; rw [if_pos (show tie V l (j + 1) = true from decide_eq_true ⟨by omega, c0, ct⟩)])
      · rw [if_neg (fun h => ct ((nI_eq (by omega) (by omega)).mp h))]
        exact hmid (fun h => ct (of_decide_eq_true h).2.2)
  · have : i = l.length := by omega
    subst this
    rw [hc.1, if_pos ((nI_leI (by omega) (by omega)).mpr (by omega))]
/-- steps -/
def ad (x y : Nat) : Nat := if x ≤ y then y - x else x - y
theorem m_apart {x y : Nat} (hx : x < 2 ^ 30) (hy : y < 2 ^ 30) : f_X12_apart (nI x) (nI y) = some (nI (ad x y)) := by
  unfold f_X12_apart ad
  by_cases c : x ≤ y
  · rw [if_pos ((nI_leI (by omega) (by omega)).mpr c), if_pos c, pk_sub c]
  · rw [if_neg (fun h => c ((nI_leI (by omega) (by omega)).mp h)), if_neg c, pk_sub (by omega)]
theorem c_gain {V : VW} {S : CS} (hV : VOK V) (hS : tC V S) {a b : Nat} (ha : a < V.n) (hb : b < V.n) (hnb : vBet V (V.ev a) (nI (V.va b)) (nI (V.va a)) = false) : f_X1_gainOver S (nI a) (nI b) = some (nI (ad (V.va a) (V.va b))) := by
  have ka := vk hV ha
  have kb := vk hV hb
  rw [vBet_n (by omega) (by omega)] at hnb
  have e01 := hV.e0 _ (hV.ev a ha)
  unfold f_X1_gainOver f_X1_isMoreBetter
  simp only [chk_nI (show a < 60 by omega) (by decide), chk_nI (show b < 60 by omega) (by decide), nI_clamp (show a < 2 ^ 31 by omega), nI_clamp (show b < 2 ^ 31 by omega), hS.ev a ha, hS.va a ha, hS.va b hb, chk_nI (show V.ev a < 6 by omega) (by decide), nI_clamp (show V.ev a < 2 ^ 31 by omega), hS.e0 _ ka.2.2.2.2.2.1]
  unfold ad
  rcases e01 with c | c
  · rw [if_pos c, decide_eq_false_iff_not] at hnb
    rw [c, if_neg (by decide), bp_some, if_neg (by decide), pk_sub (by omega), if_pos (by omega)]
  · rw [if_neg (by rw [c]; decide), decide_eq_false_iff_not] at hnb
    rw [c, if_pos rfl, bp_some, if_pos rfl, pk_sub (by omega)]
    by_cases z : V.va a ≤ V.va b
    · rw [if_pos z, show V.va a = V.va b by omega]
    · rw [if_neg z]
def stN (V : VW) (l : List Nat) (i : Nat) : Nat := ad (V.va (l.getD i 0)) (V.va (l.getD (i - 1) 0))
theorem mo_at {V : VW} {e : Nat} {d : Int32} {l : List Nat} (ho : cOK V e d l) {i j : Nat} (hij : i < j) (hj : j < l.length) : vBet V e (nI (V.va (l.getD i 0))) (nI (V.va (l.getD j 0))) = false := by
  have gi : ∀ j (hj : j < l.length), l.getD j 0 = l[j] := fun j hj => by rw [List.getD_eq_getElem?_getD, List.getElem?_eq_getElem hj]; rfl
  rw [gi i (by omega), gi j hj]
  exact List.pairwise_iff_getElem.mp ho.mo i j (by omega) hj hij
theorem c_step {V : VW} {S : CS} {l : List Nat} {e : Nat} {d : Int32} (hV : VOK V) (hS : tC V S) (ho : cOK V e d l) (hc : linC S l) {i : Nat} (h0 : 0 < i) (hi : i < l.length) : f_X7_stepAt_l1 S (nI i) = some (nI (stN V l i)) := by
  have h60 := ho.le
  obtain ⟨j, rfl⟩ : ∃ j, i = j + 1 := ⟨i - 1, by omega⟩
  have h1 := getD_mem hi
  have h2 := getD_mem (l := l) (i := j) (by omega)
  unfold f_X7_stepAt_l1 stN
  rw [if_neg (nI_nle (by omega) (by omega)), hc.1, if_neg (fun h => by rw [nI_leI (by omega) (by omega)] at h; omega), chk_nI (by omega) (by decide), nI_pred, chk_nI (by omega) (by decide), nI_clamp (by omega), nI_clamp (by omega), hc.2 _ hi, hc.2 j (by omega), c_gain hV hS (ho.m _ h1) (ho.m _ h2) (by rw [ho.ev _ h1]; exact mo_at ho (by omega) hi)]
  rfl
def wdF (V : VW) (l : List Nat) (i : Nat) (x : Int32) : Int32 := if i = 0 then x else if nI (stN V l i) ≤ (if x = -1 then 0 else nI (stN V l x.toNatClampNeg)) then x else nI i
theorem wdF_ix {V : VW} {l : List Nat} (i : Nat) (x : Int32) : wdF V l i x = x ∨ wdF V l i x = nI i := by
  unfold wdF
  by_cases c : i = 0
  · rw [if_pos c]; exact Or.inl rfl
  · rw [if_neg c]
    by_cases c2 : nI (stN V l i) ≤ (if x = -1 then 0 else nI (stN V l x.toNatClampNeg))
    · rw [if_pos c2]; exact Or.inl rfl
    · rw [if_neg c2]; exact Or.inr rfl
theorem itN_ix1 {f : Nat → Int32 → Int32} (hf : ∀ i x, f i x = x ∨ f i x = nI i) (h0 : ∀ x, f 0 x = x) (n : Nat) : itN f (-1) n = -1 ∨ ∃ t, 0 < t ∧ t < n ∧ itN f (-1) n = nI t := by
  induction n with
  | zero => exact Or.inl rfl
  | succ n ih =>
    show f n (itN f (-1) n) = -1 ∨ ∃ t, 0 < t ∧ t < n + 1 ∧ f n (itN f (-1) n) = nI t
    by_cases z : n = 0
    · subst z; rw [h0]; exact Or.inl rfl
    · rcases hf n (itN f (-1) n) with h | h
      · rw [h]
        rcases ih with h2 | ⟨t, h1, h2, h3⟩
        · exact Or.inl h2
        · exact Or.inr ⟨t, h1, by omega, h3⟩
      · rw [h]; exact Or.inr ⟨n, by omega, by omega, rfl⟩
theorem c_widest {V : VW} {S : CS} {l : List Nat} {e : Nat} {d : Int32} (hV : VOK V) (hS : tC V S) (ho : cOK V e d l) (hc : linC S l) : f_X7_widestStep_l1 S = some (itN (wdF V l) (-1) (max 1 l.length)) := by
  have h60 := ho.le
  have hx := max1 l.length
  unfold f_X7_widestStep_l1 L_X7_widestStep_l1_4
  refine lf1 (wdF V l) (-1) 1 (max 1 l.length) (FU_gt (by omega)) ?_ ?_ rfl rfl hx.1
  · intro i kk h1 h2
    have hix := itN_ix1 (wdF_ix (V := V) (l := l)) (fun _ => if_pos rfl) i
    generalize itN (wdF V l) (-1) i = x at hix
    simp only [hc.1, c_step hV hS ho hc (show 0 < i by omega) (show i < l.length by omega), bp_some, lt_eq, nI_1, jn1]
    rw [if_neg (fun h => by rw [nI_leI (by omega) (by omega)] at h; omega)]
    unfold wdF
    rw [if_neg (show ¬ i = 0 by omega)]
    rcases hix with rfl | ⟨t, ht0, ht, rfl⟩
    · rw [if_pos rfl, if_pos rfl]
      split <;> rfl
    · rw [if_neg (nI_nm1 (by omega)), if_neg (nI_nm1 (by omega)), c_step hV hS ho hc ht0 (by omega), bp_some, nI_clamp (by omega)]
      split <;> rfl
  · intro kk
    rw [hc.1, if_pos ((nI_leI (by omega) (by omega)).mpr (by omega))]
theorem m_widest {V : VW} {M : MS} {l : List Nat} {e : Nat} {d : Int32} {kk0 : Int32 → Int32 → Option (Int32 × MS)} (hV : VOK V) (hR : tR V (M.2 0)) (ho : cOK V e d l) (hc : linM M l) : L_X12_progress_39 M kk0 FU 0 (-1) 1 = kk0 (if itN (wdF V l) (-1) (max 1 l.length) = -1 then 0 else nI (stN V l (itN (wdF V l) (-1) (max 1 l.length)).toNatClampNeg)) (mkO l (itN (wdF V l) (-1) (max 1 l.length))) := by
  have h60 := ho.le
  have hl := ho.m
  have hx := max1 l.length
  unfold L_X12_progress_39
  refine lq3 (Q := fun o => o = kk0 (if itN (wdF V l) (-1) (max 1 l.length) = -1 then 0 else nI (stN V l (itN (wdF V l) (-1) (max 1 l.length)).toNatClampNeg)) (mkO l (itN (wdF V l) (-1) (max 1 l.length)))) (max 1 l.length) (fun i x y => 1 ≤ i ∧ x = (if itN (wdF V l) (-1) i = -1 then 0 else nI (stN V l (itN (wdF V l) (-1) i).toNatClampNeg)) ∧ y = mkO l (itN (wdF V l) (-1) i)) ?_ 1 rfl hx.1 (FU_gt (by omega)) ⟨by omega, rfl, rfl⟩
  rintro i x y kk hi ⟨h1, rfl, rfl⟩ hr
  by_cases c0 : i < l.length
  · obtain ⟨j, rfl⟩ : ∃ j, i = j + 1 := ⟨i - 1, by omega⟩
    have hk := hl _ (getD_mem c0)
    have hb := vk hV hk
    have hbj := vk hV (hl _ (getD_mem (l := l) (i := j) (by omega)))
    have hr := fun a b => hr a b (by omega)
    have hs : itN (wdF V l) (-1) (j + 1 + 1) = wdF V l (j + 1) (itN (wdF V l) (-1) (j + 1)) := rfl
    rw [hs] at hr
    generalize itN (wdF V l) (-1) (j + 1) = x at hr
    simp only [hc.1, bp_some, lt_eq, nI_1, nI_pred, chk_nI (show j + 1 < 60 by omega) (by decide), nI_clamp (show j + 1 < 2 ^ 31 by omega), hc.2 _ c0, m_value hV hR hl h60 hc c0, m_value hV hR hl h60 hc (show j < l.length by omega), m_apart (show V.va (l.getD (j + 1) 0) < 2 ^ 30 by omega) (show V.va (l.getD j 0) < 2 ^ 30 by omega)]
    rw [if_neg (fun h => by rw [nI_leI (by omega) (by omega)] at h; omega)]
    have es : ad (V.va (l.getD (j + 1) 0)) (V.va (l.getD j 0)) = stN V l (j + 1) := rfl
    rw [es]
    have hw : wdF V l (j + 1) x = if nI (stN V l (j + 1)) ≤ (if x = -1 then 0 else nI (stN V l x.toNatClampNeg)) then x else nI (j + 1) := if_neg (by omega)
    rw [hw] at hr
    by_cases c : (if x = -1 then 0 else nI (stN V l x.toNatClampNeg)) < nI (stN V l (j + 1))
    · rw [if_pos c]
      have c' : ¬ nI (stN V l (j + 1)) ≤ (if x = -1 then 0 else nI (stN V l x.toNatClampNeg)) := fun h => by rw [Int32.le_iff_toInt_le] at h; rw [Int32.lt_iff_toInt_lt] at c; omega
      rw [if_neg c'] at hr
      exact hr _ _ ⟨by omega, by rw [if_neg (nI_nm1 (by omega)), nI_clamp (by omega)], by unfold mkO; rw [if_neg (nI_nm1 (by omega)), nI_clamp (by omega)]⟩
    · rw [if_neg c]
      have c' : nI (stN V l (j + 1)) ≤ (if x = -1 then 0 else nI (stN V l x.toNatClampNeg)) := by rw [Int32.le_iff_toInt_le]; rw [Int32.lt_iff_toInt_lt] at c; omega
      rw [if_pos c'] at hr
      exact hr _ _ ⟨by omega, rfl, rfl⟩
  · rw [hc.1, if_pos ((nI_leI (by omega) (by omega)).mpr (by omega))]
    have : i = max 1 l.length := by omega
    rw [this]
theorem c_whole {V : VW} {S : CS} {l : List Nat} {e : Nat} {d : Int32} (hV : VOK V) (hS : tC V S) (ho : cOK V e d l) (hc : linC S l) : f_X7_wholeGain_l1 S = some (if l = [] then 0 else nI (ad (V.va (l.getD 0 0)) (V.va (lst l)))) := by
  have h60 := ho.le
  unfold f_X7_wholeGain_l1
  rw [hc.1]
  rcases len_cases l with rfl | ⟨t, ht, hne⟩
  · rfl
  · have h1 := getD_mem (l := l) (i := t) (by omega)
    have h2 := getD_mem (l := l) (i := 0) (by omega)
    rw [ht, if_neg (nI_ne0 (by omega) (by omega)), if_neg hne, nI_pred, chk_nI (by omega) (by decide), chk_of (i := 0) (k := 0) rfl (by decide) (by decide), nI_clamp (by omega), hc.2 t (by omega), show (S.2.1 37 (0 : Int32).toNatClampNeg) = nI (l.getD 0 0) from hc.2 0 (by omega), c_gain hV hS (ho.m _ h1) (ho.m _ h2) (by
      rw [ho.ev _ h1]
      by_cases z : t = 0
      · subst z; exact vBet_irr
      · exact mo_at ho (by omega) (by omega))]
    have hl : lst l = l.getD t 0 := by unfold lst; rw [ht]; rfl
    rw [hl, bp_some]
    congr 2
    unfold ad
    split <;> split <;> omega
