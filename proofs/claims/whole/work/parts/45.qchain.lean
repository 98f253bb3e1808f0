/-! questions of a chain -/
theorem q_chain (T : XS) (M : MS) (a1 a2 a3 a4 : Int32) (h : RLL T M) : ∃ (r : Int32) (T' : XS) (M' : MS), fo_chain T a1 a2 a3 a4 = some (r, T') ∧ fm_chain M a1 a2 a3 a4 = some (r, M') ∧ RLL T' M' := by
  obtain ⟨W, Ws, hh⟩ := id h
  have hV := hh.w.V
  unfold fo_chain fm_chain f_X11_chain f_X12_chain
  rcases ask2 hh.w hh.c hh.m.R hh.r.ad hh.r.lf a1 a2 a3 with ⟨e1, e2⟩ | ⟨l, e', s', d', S', M', rfl, he, rfl, hs, rfl, hd, e1, e2, e3, hl, ho, hc, hm, hq, hq2, hS', hR'⟩
  · rw [e1, e2]; exact ⟨_, _, _, rfl, rfl, h⟩
  · rw [e1, e2]
    simp only [bw_some, bp_some, if_true]
    rw [e3, bp_some, c_pick ho.le hc, m_pick ho.le hm]
    exact ⟨_, _, _, rfl, rfl, RL_q h hq hq2⟩
theorem q_record (T : XS) (M : MS) (a1 a2 a3 : Int32) (h : RLL T M) : ∃ (r : Int32) (T' : XS) (M' : MS), fo_record T a1 a2 a3 = some (r, T') ∧ fm_record M a1 a2 a3 = some (r, M') ∧ RLL T' M' := by
  obtain ⟨W, Ws, hh⟩ := id h
  have hV := hh.w.V
  unfold fo_record fm_record f_X11_record f_X12_record
  rcases ask2 hh.w hh.c hh.m.R hh.r.ad hh.r.lf a1 a2 a3 with ⟨e1, e2⟩ | ⟨l, e', s', d', S', M', rfl, he, rfl, hs, rfl, hd, e1, e2, e3, hl, ho, hc, hm, hq, hq2, hS', hR'⟩
  · rw [e1, e2]; exact ⟨_, _, _, rfl, rfl, h⟩
  · rw [e1, e2]
    simp only [bw_some, bp_some, if_true]
    rw [e3, bp_some, c_last1 hV hS'.V ho.m ho.le hc, m_rec hV hR' ho.m ho.le hm]
    exact ⟨_, _, _, rfl, rfl, RL_q h hq hq2⟩
theorem q_holders (T : XS) (M : MS) (a1 a2 a3 : Int32) (h : RLL T M) : ∃ (r : Int32) (T' : XS) (M' : MS), fo_holders T a1 a2 a3 = some (r, T') ∧ fm_holders M a1 a2 a3 = some (r, M') ∧ RLL T' M' := by
  obtain ⟨W, Ws, hh⟩ := id h
  have hV := hh.w.V
  unfold fo_holders fm_holders f_X11_holders f_X12_holders
  rcases ask2 hh.w hh.c hh.m.R hh.r.ad hh.r.lf a1 a2 a3 with ⟨e1, e2⟩ | ⟨l, e', s', d', S', M', rfl, he, rfl, hs, rfl, hd, e1, e2, e3, hl, ho, hc, hm, hq, hq2, hS', hR'⟩
  · rw [e1, e2]; exact ⟨_, _, _, rfl, rfl, h⟩
  · rw [e1, e2]
    simp only [bw_some, bp_some, if_true]
    rw [e3, bp_some, c_holders hV hS'.V ho hc, m_holders hV hR' ho.m ho.le hm]
    exact ⟨_, _, _, rfl, rfl, RL_q h hq hq2⟩
theorem q_ties (T : XS) (M : MS) (a1 a2 a3 : Int32) (h : RLL T M) : ∃ (r : Int32) (T' : XS) (M' : MS), fo_ties T a1 a2 a3 = some (r, T') ∧ fm_ties M a1 a2 a3 = some (r, M') ∧ RLL T' M' := by
  obtain ⟨W, Ws, hh⟩ := id h
  have hV := hh.w.V
  unfold fo_ties fm_ties f_X11_ties f_X12_ties
  rcases ask2 hh.w hh.c hh.m.R hh.r.ad hh.r.lf a1 a2 a3 with ⟨e1, e2⟩ | ⟨l, e', s', d', S', M', rfl, he, rfl, hs, rfl, hd, e1, e2, e3, hl, ho, hc, hm, hq, hq2, hS', hR'⟩
  · rw [e1, e2]; exact ⟨_, _, _, rfl, rfl, h⟩
  · rw [e1, e2]
    simp only [bw_some, bp_some, if_true]
    rw [e3, bp_some, c_ties hV hS'.V ho.m ho.le hc, m_ties hV hR' ho.m ho.le hm]
    exact ⟨_, _, _, rfl, rfl, RL_q h hq hq2⟩
theorem q_drought (T : XS) (M : MS) (a1 a2 a3 : Int32) (h : RLL T M) : ∃ (r : Int32) (T' : XS) (M' : MS), fo_drought T a1 a2 a3 = some (r, T') ∧ fm_drought M a1 a2 a3 = some (r, M') ∧ RLL T' M' := by
  obtain ⟨W, Ws, hh⟩ := id h
  have hV := hh.w.V
  unfold fo_drought fm_drought f_X11_drought f_X12_drought
  rcases ask2 hh.w hh.c hh.m.R hh.r.ad hh.r.lf a1 a2 a3 with ⟨e1, e2⟩ | ⟨l, e', s', d', S', M', rfl, he, rfl, hs, rfl, hd, e1, e2, e3, hl, ho, hc, hm, hq, hq2, hS', hR'⟩
  · rw [e1, e2]; exact ⟨_, _, _, rfl, rfl, h⟩
  · rw [e1, e2]
    simp only [bw_some, bp_some, if_true]
    rw [e3, bp_some, c_drought hV hS'.V ho.m ho.le hc, m_drought hV hR' ho.m ho.le hm]
    exact ⟨_, _, _, rfl, rfl, RL_q h hq hq2⟩
theorem c_mb {V : VW} {S : CS} (hV : VOK V) (hS : tC V S) {e : Nat} (he : e < V.ne) : f_X1_isMoreBetter S (nI e) = some (decide (V.e0 e = 1)) := by
  have h6 := hV.ne
  unfold f_X1_isMoreBetter
  rw [chk_nI (by omega) (by decide), nI_clamp (by omega), hS.e0 e he]
  by_cases c : V.e0 e = 1
  · rw [if_pos c, decide_eq_true c]
  · rw [if_neg c, decide_eq_false c]
def wsT (x : Int32) : Int32 := if x < 1 then 0 else if x ≤ 1000000 then x else 0
theorem ws1 {S : CS} {x : Int32} : (if x < 1 then some (0, S) else if x ≤ 1000000 then some (x, S) else some (0, S)) = some (wsT x, S) := by
  unfold wsT
  split
  · rfl
  · split <;> rfl
theorem ws2 {M : MS} {x : Int32} : bp (f_X12_isIn x 1 1000000) (fun x6 => if x6 = true then some (x, M) else some (0, M)) = some (wsT x, M) := by
  unfold f_X12_isIn wsT
  by_cases c1 : x < 1
  · rw [if_pos c1, if_pos c1]; rfl
  · rw [if_neg c1, if_neg c1]
    by_cases c2 : 1000000 < x
    · have c3 : ¬ x ≤ 1000000 := fun h => by rw [Int32.le_iff_toInt_le] at h; rw [Int32.lt_iff_toInt_lt] at c2; omega
      rw [if_pos c2, if_neg c3]; rfl
    · have c3 : x ≤ 1000000 := by rw [Int32.le_iff_toInt_le]; rw [Int32.lt_iff_toInt_lt] at c2; omega
      rw [if_neg c2, if_pos c3]; rfl
def wishV (V : VW) (e : Nat) (l : List Nat) : Int32 := if nI l.length = 0 then -1 else if V.e0 e = 0 then wsT (recV V l + -1) else wsT (recV V l + 1)
theorem c_wis {V : VW} {S : CS} {l : List Nat} {e : Nat} {d : Int32} (hV : VOK V) (hS : tC V S) (ho : cOK V e d l) (hc : linC S l) (he : e < V.ne) : (if S.1 21 = 0 then some (-1, S) else bp (f_X7_lastValue_l1 S) (fun x3 => bp (f_X1_isMoreBetter S (nI e)) (fun x4 => jn1 (fun (x5 : Int32) => lt (x3 + x5) fun x6 => (if x6 < 1 then some (0, S) else (if x6 ≤ 1000000 then some (x6, S) else some (0, S)))) (fun k7 => (if x4 = true then k7 1 else k7 (-1)))))) = some (wishV V e l, S) := by
  rw [hc.1, c_last1 hV hS ho.m ho.le hc, c_mb hV hS he]
  simp only [bp_some, jn1, lt_eq, ws1]
  unfold wishV
  by_cases c0 : nI l.length = 0
  · rw [if_pos c0, if_pos c0]
  · rw [if_neg c0, if_neg c0]
    rcases hV.e0 e he with c | c
    · rw [if_neg (show ¬ (decide (V.e0 e = 1) = true) by rw [c]; decide), if_pos c]
    · rw [if_pos (decide_eq_true c), if_neg (show ¬ V.e0 e = 0 by rw [c]; decide)]
theorem m_wis {V : VW} {M : MS} {l : List Nat} {e : Nat} {d : Int32} (hV : VOK V) (hR : tR V (M.2 0)) (ho : cOK V e d l) (hc : linM M l) (he : e < V.ne) : (if M.1 20 = 0 then some (-1, M) else bp (f_X12_recordNow M) (fun x3 => chk (5 + 2 * nI e) 1177 (jn1 (fun (x4 : Int32) => lt (x3 + x4) fun x5 => bp (f_X12_isIn x5 1 1000000) (fun x6 => (if x6 = true then some (x5, M) else some (0, M)))) (fun k7 => (if M.2 0 (5 + 2 * nI e).toNatClampNeg = 0 then k7 (-1) else k7 1))))) = some (wishV V e l, M) := by
  have h6 := hV.ne
  have e1 : (5 : Int32) + 2 * nI e = nI (5 + 2 * e) := by rw [show (5 : Int32) = nI 5 from rfl, show (2 : Int32) = nI 2 from rfl, pk_mul, nI_add]
  rw [hc.1, m_rec hV hR ho.m ho.le hc, e1]
  simp only [bp_some, jn1, lt_eq, ws2]
  rw [chk_nI (by omega) (by decide), nI_clamp (by omega), hR.e0 e he]
  unfold wishV
  by_cases c0 : nI l.length = 0
  · rw [if_pos c0, if_pos c0]
  · rw [if_neg c0, if_neg c0]
    by_cases c : V.e0 e = 0
    · rw [if_pos c, if_pos c]
    · rw [if_neg c, if_neg c]
theorem q_wished (T : XS) (M : MS) (a1 a2 a3 : Int32) (h : RLL T M) : ∃ (r : Int32) (T' : XS) (M' : MS), fo_wished T a1 a2 a3 = some (r, T') ∧ fm_wished M a1 a2 a3 = some (r, M') ∧ RLL T' M' := by
  obtain ⟨W, Ws, hh⟩ := id h
  have hV := hh.w.V
  unfold fo_wished fm_wished f_X11_wished f_X12_wished
  rcases ask2 hh.w hh.c hh.m.R hh.r.ad hh.r.lf a1 a2 a3 with ⟨e1, e2⟩ | ⟨l, e', s', d', S', M', rfl, he, rfl, hs, rfl, hd, e1, e2, e3, hl, ho, hc, hm, hq, hq2, hS', hR'⟩
  · rw [e1, e2]; exact ⟨_, _, _, rfl, rfl, h⟩
  · rw [e1, e2]
    simp only [bw_some, bp_some, if_true]
    rw [e3, bp_some, c_wis hV hS'.V ho hc he, m_wis hV hR' ho hm he]
    exact ⟨_, _, _, rfl, rfl, RL_q h hq hq2⟩
theorem q_held (T : XS) (M : MS) (a1 a2 a3 a4 : Int32) (h : RLL T M) : ∃ (r : Int32) (T' : XS) (M' : MS), fo_held T a1 a2 a3 a4 = some (r, T') ∧ fm_held M a1 a2 a3 a4 = some (r, M') ∧ RLL T' M' := by
  obtain ⟨W, Ws, hh⟩ := id h
  have hV := hh.w.V
  unfold fo_held fm_held f_X11_held f_X12_held
  rw [c_hasA hV hh.c.V, m_isAth hV hh.m.R]
  simp only [bp_some]
  rcases ask2 hh.w hh.c hh.m.R hh.r.ad hh.r.lf a1 a2 a4 with ⟨e1, e2⟩ | ⟨l, e', s', d', S', M', rfl, he, rfl, hs, rfl, hd, e1, e2, e3, hl, ho, hc, hm, hq, hq2, hS', hR'⟩
  · rw [e1, e2]
    cases inR a3 W.V.na <;> exact ⟨_, _, _, rfl, rfl, h⟩
  · rw [e1, e2]
    cases inR a3 W.V.na
    · exact ⟨_, _, _, rfl, rfl, h⟩
    · simp only [bw_some, bp_some, if_true]
      rw [e3, bp_some, c_held hV hS'.V ho.m ho.le hc, m_held hh.w hR' hd ho hm]
      exact ⟨_, _, _, rfl, rfl, RL_q h hq hq2⟩
theorem q_stood (T : XS) (M : MS) (a1 a2 a3 a4 : Int32) (h : RLL T M) : ∃ (r : Int32) (T' : XS) (M' : MS), fo_stood T a1 a2 a3 a4 = some (r, T') ∧ fm_stood M a1 a2 a3 a4 = some (r, M') ∧ RLL T' M' := by
  obtain ⟨W, Ws, hh⟩ := id h
  have hV := hh.w.V
  unfold fo_stood fm_stood f_X11_stood f_X12_stood
  rw [ite_gt2 1 (by decide) (show (1 : Int32) = nI 1 from rfl), isIn_n (y := 1) 1 (by decide) rfl]
  simp only [bp_some]
  rcases ask2 hh.w hh.c hh.m.R hh.r.ad hh.r.lf a1 a2 a3 with ⟨e1, e2⟩ | ⟨l, e', s', d', S', M', rfl, he, rfl, hs, rfl, hd, e1, e2, e3, hl, ho, hc, hm, hq, hq2, hS', hR'⟩
  · rw [e1, e2]
    cases inR a4 2 <;> exact ⟨_, _, _, rfl, rfl, h⟩
  · rw [e1, e2]
    cases inR a4 2
    · exact ⟨_, _, _, rfl, rfl, h⟩
    · simp only [bw_some, bp_some, if_true]
      have h60 := ho.le
      have hix := itN_ix (sdF_ix (V := W.V) (l := l) (d := d')) l.length
      rw [e3, bp_some, c_stood hV hS'.V ho.m ho.le hc, bp_some, m_stood hV hR' ho.m ho.le hm]
      generalize itN (sdF W.V l d') (-1) l.length = x at hix
      unfold mkO
      rcases hix with rfl | ⟨t, ht, rfl⟩
      · by_cases c : a4 = 0
        · rw [if_pos rfl, if_pos c, if_pos c]; exact ⟨_, _, _, rfl, rfl, RL_q h hq hq2⟩
        · rw [if_pos rfl, if_neg c, if_neg c]; exact ⟨_, _, _, rfl, rfl, RL_q h hq hq2⟩
      · rw [if_neg (nI_nm1 (by omega)), nI_clamp (by omega), if_neg (nI_nm1 (by omega)), if_neg (nI_nm1 (by omega))]
        by_cases c : a4 = 0
        · rw [if_pos c, if_pos c, c_daysOf hV hS'.V ho.m ho.le hc ht, bp_some]; exact ⟨_, _, _, rfl, rfl, RL_q h hq hq2⟩
        · rw [if_neg c, if_neg c, chk_nI (by omega) (by decide), hc.2 t ht]; exact ⟨_, _, _, rfl, rfl, RL_q h hq hq2⟩
theorem q_progress (T : XS) (M : MS) (a1 a2 a3 a4 : Int32) (h : RLL T M) : ∃ (r : Int32) (T' : XS) (M' : MS), fo_progress T a1 a2 a3 a4 = some (r, T') ∧ fm_progress M a1 a2 a3 a4 = some (r, M') ∧ RLL T' M' := by
  obtain ⟨W, Ws, hh⟩ := id h
  have hV := hh.w.V
  unfold fo_progress fm_progress f_X11_progress f_X12_progress
  rw [ite_gt2 2 (by decide) (show (2 : Int32) = nI 2 from rfl), isIn_n (y := 2) 2 (by decide) rfl]
  simp only [bp_some]
  rcases ask2 hh.w hh.c hh.m.R hh.r.ad hh.r.lf a1 a2 a3 with ⟨e1, e2⟩ | ⟨l, e', s', d', S', M', rfl, he, rfl, hs, rfl, hd, e1, e2, e3, hl, ho, hc, hm, hq, hq2, hS', hR'⟩
  · rw [e1, e2]
    cases inR a4 3 <;> exact ⟨_, _, _, rfl, rfl, h⟩
  · rw [e1, e2]
    cases c4 : inR a4 3
    · exact ⟨_, _, _, rfl, rfl, h⟩
    · simp only [bw_some, bp_some, if_true]
      have h60 := ho.le
      have hx := max1 l.length
      have hix := itN_ix1 (wdF_ix (V := W.V) (l := l)) (fun _ => if_pos rfl) (max 1 l.length)
      rw [e3, bp_some, c_whole hV hS'.V ho hc, c_widest hV hS'.V ho hc, bp_some, bp_some, m_widest hV hR' ho hm, m_rec hV hR' ho.m ho.le hm, hm.1]
      generalize itN (wdF W.V l) (-1) (max 1 l.length) = x at hix
      obtain ⟨w, hw, rfl⟩ := inR_nI c4
      have hcw : w = 0 ∨ w = 1 ∨ w = 2 := by omega
      rcases hcw with rfl | rfl | rfl
      · rw [if_pos (show nI 0 = 0 from rfl), if_neg (show ¬ nI 0 = 1 by decide), if_neg (show ¬ nI 0 = 2 by decide)]
        rcases len_cases l with rfl | ⟨t, ht, hne⟩
        · rw [if_pos rfl, if_pos (show nI ([] : List Nat).length = 0 from rfl)]; exact ⟨_, _, _, rfl, rfl, RL_q h hq hq2⟩
        · have h0 := ho.m _ (getD_mem (l := l) (i := 0) (by omega))
          have b0 := vk hV h0
          have bl := vk hV (ho.m _ (lst_mem hne))
          have er : recV W.V l = nI (W.V.va (lst l)) := if_neg hne
          rw [if_neg hne, if_neg (nI_ne0 (by omega) (by omega)), show (0 : Int32) = nI 0 from rfl, m_value hV hR' ho.m ho.le hm (show 0 < l.length by omega), bp_some, bp_some, er, m_apart (by omega) (by omega), bp_some]
          exact ⟨_, _, _, rfl, rfl, RL_q h hq hq2⟩
      · rw [if_neg (show ¬ nI 1 = 0 by decide), if_pos (show nI 1 = 1 from rfl), if_pos (show nI 1 = 1 from rfl)]
        rcases hix with rfl | ⟨t, ht0, ht, rfl⟩
        · rw [if_pos rfl, if_pos rfl]; exact ⟨_, _, _, rfl, rfl, RL_q h hq hq2⟩
        · rw [if_neg (nI_nm1 (by omega)), if_neg (nI_nm1 (by omega)), c_step hV hS'.V ho hc ht0 (by omega), bp_some, nI_clamp (by omega)]
          exact ⟨_, _, _, rfl, rfl, RL_q h hq hq2⟩
      · rw [if_neg (show ¬ nI 2 = 0 by decide), if_neg (show ¬ nI 2 = 1 by decide), if_neg (show ¬ nI 2 = 1 by decide), if_pos (show nI 2 = 2 from rfl)]
        unfold mkO
        rcases hix with rfl | ⟨t, ht0, ht, rfl⟩
        · rw [if_pos rfl, if_pos rfl]; exact ⟨_, _, _, rfl, rfl, RL_q h hq hq2⟩
        · rw [if_neg (nI_nm1 (by omega)), if_neg (nI_nm1 (by omega)), chk_nI (by omega) (by decide), nI_clamp (by omega), hc.2 t (by omega)]
          exact ⟨_, _, _, rfl, rfl, RL_q h hq hq2⟩
theorem q_at (T : XS) (M : MS) (a1 a2 a3 a4 : Int32) (h : RLL T M) : ∃ (r : Int32) (T' : XS) (M' : MS), fo_at T a1 a2 a3 a4 = some (r, T') ∧ fm_at M a1 a2 a3 a4 = some (r, M') ∧ RLL T' M' := by
  obtain ⟨W, Ws, hh⟩ := id h
  have hV := hh.w.V
  have hR := hh.m.R
  unfold fo_at fm_at f_X11_at f_X12_at
  rw [c_asked hV hh.c.V, m_asked hV hR, ite_le2 1439 (by decide) (show (1439 : Int32) = nI 1439 from rfl), isIn_n (y := 1439) 1439 (by decide) rfl, chk_c4, m_A4 hR, hh.c.V.td]
  simp only [bp_some]
  cases ha : vAsk W.V a1 a2 a3 with
  | false => exact ⟨_, _, _, rfl, rfl, h⟩
  | true =>
    cases hb : inR a4 1440 with
    | false => exact ⟨_, _, _, rfl, rfl, h⟩
    | true =>
      unfold vAsk at ha
      simp only [Bool.and_eq_true] at ha
      obtain ⟨e', he, rfl⟩ := inR_nI ha.1.1
      obtain ⟨s', hs, rfl⟩ := inR_nI ha.1.2
      obtain ⟨d', hd, rfl⟩ := inR_nI ha.2
      obtain ⟨m', hm', rfl⟩ := inR_nI hb
      obtain ⟨S', b1, b2, b3⟩ := c_ch1 hh.w hh.c (d := nI W.V.td) he hs
      obtain ⟨M', d1, d2, d3⟩ := m_ch hh.w hR hh.r.ad hh.r.lf (d := nI W.V.td) he hs
      have hq := cqf_of b3 (by decide) (by decide)
      have hq2 := mqf_of d3 (by decide) (by decide)
      have ho := ch_cOK hh.w (e := e') (s := s') (d := nI W.V.td)
      simp only [if_true]
      rw [b1, d1, bp_some, bp_some, c_at (by omega) (by omega) hV (cqf_W hh.c hq).V ho.m ho.le b2, m_at (by omega) (by omega) hV (by rw [mqf_R hq2]; exact hR) ho.m ho.le d2]
      exact ⟨_, _, _, rfl, rfl, RL_q h hq hq2⟩
