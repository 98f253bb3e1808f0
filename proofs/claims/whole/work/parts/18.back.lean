theorem h_bpX {ρ : Type} {ok : ρ → Prop} {o : Option ρ} (h : ∀ r, o = some r → ok r) : jh ok (bp o (fun r => some r)) := fun r e => by
  cases o with
  | none => cases e
  | some x => cases e; exact h _ rfl
abbrev rm_X11_perform : Room := { frames := 5, cells := 1, slots := 5, locals := 115 }
theorem kY_X11_perform : kY yX11_perform cX11_perform 3 (some .int) 1 := ⟨kw_1_1, kw_5_124, by decide, by decide, by decide +kernel⟩
def f_X11_perform (S : CS) (a1 : Int32) : Option RX :=
  bp (f_X0_numberOf S a1 0) (fun x1 =>
  bp (f_X0_letterOf S a1) (fun x2 =>
  (if x2 = 100 then
  bp (f_X11_days S x1) (fun r => some r)
 else
  (if x2 = 112 then
  bp (f_X0_numberOf S a1 1) (fun x3 =>
  bp (f_X11_paper S x1 x3) (fun r => some r))
 else
  (if x2 = 114 then
  bp (f_X11_ratify S x1) (fun r => some r)
 else
  (if x2 = 115 then
  bp (f_X11_strike S x1) (fun r => some r)
 else
  bp (f_X0_numberOf S a1 1) (fun x4 =>
  bp (f_X0_numberOf S a1 2) (fun x5 =>
  bp (f_X11_ban S x1 x4 x5) (fun r => some r)))))))))
set_option maxRecDepth 100000 in
set_option maxHeartbeats 4000000 in
theorem c_X11_perform {g : KG} {q : Nat → Nat} {rg : Nat → Option Nat} {D : va_W} {S : CS} {a1 : Int32} {r : RX} (h : f_X11_perform S a1 = some r) : ∀ l, kMx l yX11_perform cX11_perform 3 (some .int) rm_X11_perform g [.ref (q 0), .int a1] (cx g q (rc g q rg :: D) S) (pW g q rg D r) 1 5 := by
  refine k_openx_i (own := "MarkChains") (by decide) rfl (Nat.le_of_ble_eq_true rfl) (fun X C hR => ?_)
  refine (?_ : jJ X g r (cx g q (rc g q rg :: D) S) 0 0 0 [(0, .ref (q 0)), (1, .int a1)] [] (f_X11_perform S a1)) h
  unfold f_X11_perform
  refine r_aload_n (pc := 0) C dX11_perform_0 0 rfl ?_
  refine xg_x_plan (pc := 1) C kw_2_78 dX11_perform_1 ?_
  refine r_iload_n (pc := 4) C dX11_perform_4 1 rfl ?_
  refine r_iconst (pc := 5) C dX11_perform_5 (v := 0) (by decide) ?_
  refine r_cVpi (As := [.int a1, .int 0]) (st := []) (pc := 6) C (fun _ h => c_X0_numberOf h) kY_X0_numberOf kw_5_126 kw_5_127 kw_5_125 rfl ⟨Nat.le_of_ble_eq_true rfl, Nat.le_of_ble_eq_true rfl⟩ rfl rfl ⟨Nat.zero_le _, Nat.zero_le _⟩ 30 rfl rfl rfl (Nat.le_of_ble_eq_true rfl) dX11_perform_6 (fun x1 => ?_)
  refine r_istore_n (pc := 9) C dX11_perform_9 (lv' := [(0, .ref (q 0)), (1, .int a1), (2, .int x1)]) (by decide) [1, 2, 0] rfl ?_
  refine r_aload_n (pc := 10) C dX11_perform_10 0 rfl ?_
  refine xg_x_plan (pc := 11) C kw_2_78 dX11_perform_11 ?_
  refine r_iload_n (pc := 14) C dX11_perform_14 1 rfl ?_
  refine r_cVpi (As := [.int a1]) (st := []) (pc := 15) C (fun _ h => c_X0_letterOf h) kY_X0_letterOf kw_5_130 kw_5_131 kw_5_129 rfl ⟨Nat.le_of_ble_eq_true rfl, Nat.le_of_ble_eq_true rfl⟩ rfl rfl ⟨Nat.zero_le _, Nat.zero_le _⟩ 30 rfl rfl rfl (Nat.le_of_ble_eq_true rfl) dX11_perform_15 (fun x2 => ?_)
  refine r_case (fun h18_0 => ?_) (fun h18_0 => ?_)
  · refine r_lookIn (off := 54) 72 (pc := 18) C dX11_perform_18 h18_0 (by decide) (by decide) (by decide) ?_
    refine r_aload_n (pc := 72) C dX11_perform_72 0 rfl ?_
    refine r_iload_n (pc := 73) C dX11_perform_73 2 rfl ?_
    refine r_cVX (Φ := pW g q rg D) (As := [.int x1]) (st := []) (mc := 1) (ms := 5) (pc := 74) C (fun _ h => c_X11_days h) kY_X11_days kw_4_80 kw_4_81 kw_5_135 rfl ⟨Nat.le_of_ble_eq_true rfl, Nat.le_of_ble_eq_true rfl⟩ rfl rfl ⟨Nat.le_of_ble_eq_true rfl, Nat.le_of_ble_eq_true rfl⟩ 0 rfl rfl rfl (Nat.le_of_ble_eq_true rfl) dX11_perform_74 (fun r o w hw => ?_)
    obtain ⟨ho, hw⟩ := hw
    subst ho
    exact r_retX (Φ := pW g q rg D) hR ⟨rfl, hw⟩ (pc := 77) dX11_perform_77
  · refine r_case (fun h18_1 => ?_) (fun h18_1 => ?_)
    · refine r_lookIn (off := 60) 78 (pc := 18) C dX11_perform_18 h18_1 (by decide) (by decide) (by decide) ?_
      refine r_aload_n (pc := 78) C dX11_perform_78 0 rfl ?_
      refine r_iload_n (pc := 79) C dX11_perform_79 2 rfl ?_
      refine r_aload_n (pc := 80) C dX11_perform_80 0 rfl ?_
      refine xg_x_plan (pc := 81) C kw_2_78 dX11_perform_81 ?_
      refine r_iload_n (pc := 84) C dX11_perform_84 1 rfl ?_
      refine r_iconst (pc := 85) C dX11_perform_85 (v := 1) (by decide) ?_
      refine r_cVpi (As := [.int a1, .int 1]) (st := [.int x1, .ref (q 0)]) (pc := 86) C (fun _ h => c_X0_numberOf h) kY_X0_numberOf kw_5_126 kw_5_127 kw_5_125 rfl ⟨Nat.le_of_ble_eq_true rfl, Nat.le_of_ble_eq_true rfl⟩ rfl rfl ⟨Nat.zero_le _, Nat.zero_le _⟩ 30 rfl rfl rfl (Nat.le_of_ble_eq_true rfl) dX11_perform_86 (fun x3 => ?_)
      refine r_cVX (Φ := pW g q rg D) (As := [.int x1, .int x3]) (st := []) (mc := 1) (ms := 5) (pc := 89) C (fun _ h => c_X11_paper h) kY_X11_paper kw_4_76 kw_4_77 kw_5_136 rfl ⟨Nat.le_of_ble_eq_true rfl, Nat.le_of_ble_eq_true rfl⟩ rfl rfl ⟨Nat.le_of_ble_eq_true rfl, Nat.le_of_ble_eq_true rfl⟩ 0 rfl rfl rfl (Nat.le_of_ble_eq_true rfl) dX11_perform_89 (fun r o w hw => ?_)
      obtain ⟨ho, hw⟩ := hw
      subst ho
      exact r_retX (Φ := pW g q rg D) hR ⟨rfl, hw⟩ (pc := 92) dX11_perform_92
    · refine r_case (fun h18_2 => ?_) (fun h18_2 => ?_)
      · refine r_lookIn (off := 42) 60 (pc := 18) C dX11_perform_18 h18_2 (by decide) (by decide) (by decide) ?_
        refine r_aload_n (pc := 60) C dX11_perform_60 0 rfl ?_
        refine r_iload_n (pc := 61) C dX11_perform_61 2 rfl ?_
        refine r_cVX (Φ := pW g q rg D) (As := [.int x1]) (st := []) (mc := 1) (ms := 5) (pc := 62) C (fun _ h => c_X11_ratify h) kY_X11_ratify kw_4_64 kw_4_65 kw_5_133 rfl ⟨Nat.le_of_ble_eq_true rfl, Nat.le_of_ble_eq_true rfl⟩ rfl rfl ⟨Nat.le_of_ble_eq_true rfl, Nat.le_of_ble_eq_true rfl⟩ 0 rfl rfl rfl (Nat.le_of_ble_eq_true rfl) dX11_perform_62 (fun r o w hw => ?_)
        obtain ⟨ho, hw⟩ := hw
        subst ho
        exact r_retX (Φ := pW g q rg D) hR ⟨rfl, hw⟩ (pc := 65) dX11_perform_65
      · refine r_case (fun h18_3 => ?_) (fun h18_3 => ?_)
        · refine r_lookIn (off := 48) 66 (pc := 18) C dX11_perform_18 h18_3 (by decide) (by decide) (by decide) ?_
          refine r_aload_n (pc := 66) C dX11_perform_66 0 rfl ?_
          refine r_iload_n (pc := 67) C dX11_perform_67 2 rfl ?_
          refine r_cVX (Φ := pW g q rg D) (As := [.int x1]) (st := []) (mc := 1) (ms := 5) (pc := 68) C (fun _ h => c_X11_strike h) kY_X11_strike kw_4_68 kw_4_69 kw_5_134 rfl ⟨Nat.le_of_ble_eq_true rfl, Nat.le_of_ble_eq_true rfl⟩ rfl rfl ⟨Nat.le_of_ble_eq_true rfl, Nat.le_of_ble_eq_true rfl⟩ 0 rfl rfl rfl (Nat.le_of_ble_eq_true rfl) dX11_perform_68 (fun r o w hw => ?_)
          obtain ⟨ho, hw⟩ := hw
          subst ho
          exact r_retX (Φ := pW g q rg D) hR ⟨rfl, hw⟩ (pc := 71) dX11_perform_71
        · refine r_look (off := 75) 93 (pc := 18) C dX11_perform_18 (by decide) (by rw [show (#[(100, 54), (112, 60), (114, 42), (115, 48)] : Array (Int × Int)).toList = [(100, 54), (112, 60), (114, 42), (115, 48)] from rfl, lv_osw h18_0 (by decide), lv_osw h18_1 (by decide), lv_osw h18_2 (by decide), lv_osw h18_3 (by decide)]; rfl) (by decide) ?_
          refine r_aload_n (pc := 93) C dX11_perform_93 0 rfl ?_
          refine r_iload_n (pc := 94) C dX11_perform_94 2 rfl ?_
          refine r_aload_n (pc := 95) C dX11_perform_95 0 rfl ?_
          refine xg_x_plan (pc := 96) C kw_2_78 dX11_perform_96 ?_
          refine r_iload_n (pc := 99) C dX11_perform_99 1 rfl ?_
          refine r_iconst (pc := 100) C dX11_perform_100 (v := 1) (by decide) ?_
          refine r_cVpi (As := [.int a1, .int 1]) (st := [.int x1, .ref (q 0)]) (pc := 101) C (fun _ h => c_X0_numberOf h) kY_X0_numberOf kw_5_126 kw_5_127 kw_5_125 rfl ⟨Nat.le_of_ble_eq_true rfl, Nat.le_of_ble_eq_true rfl⟩ rfl rfl ⟨Nat.zero_le _, Nat.zero_le _⟩ 30 rfl rfl rfl (Nat.le_of_ble_eq_true rfl) dX11_perform_101 (fun x4 => ?_)
          refine r_aload_n (pc := 104) C dX11_perform_104 0 rfl ?_
          refine xg_x_plan (pc := 105) C kw_2_78 dX11_perform_105 ?_
          refine r_iload_n (pc := 108) C dX11_perform_108 1 rfl ?_
          refine r_iconst (pc := 109) C dX11_perform_109 (v := 2) (by decide) ?_
          refine r_cVpi (As := [.int a1, .int 2]) (st := [.int x4, .int x1, .ref (q 0)]) (pc := 110) C (fun _ h => c_X0_numberOf h) kY_X0_numberOf kw_5_126 kw_5_127 kw_5_125 rfl ⟨Nat.le_of_ble_eq_true rfl, Nat.le_of_ble_eq_true rfl⟩ rfl rfl ⟨Nat.zero_le _, Nat.zero_le _⟩ 30 rfl rfl rfl (Nat.le_of_ble_eq_true rfl) dX11_perform_110 (fun x5 => ?_)
          refine r_cVX (Φ := pW g q rg D) (As := [.int x1, .int x4, .int x5]) (st := []) (mc := 1) (ms := 5) (pc := 113) C (fun _ h => c_X11_ban h) kY_X11_ban kw_4_72 kw_4_73 kw_5_137 rfl ⟨Nat.le_of_ble_eq_true rfl, Nat.le_of_ble_eq_true rfl⟩ rfl rfl ⟨Nat.le_of_ble_eq_true rfl, Nat.le_of_ble_eq_true rfl⟩ 0 rfl rfl rfl (Nat.le_of_ble_eq_true rfl) dX11_perform_113 (fun r o w hw => ?_)
          obtain ⟨ho, hw⟩ := hw
          subst ho
          exact r_retX (Φ := pW g q rg D) hR ⟨rfl, hw⟩ (pc := 116) dX11_perform_116
set_option maxRecDepth 100000 in
theorem w_X11_perform {S : CS} {a1 : Int32} {r : RX} (h : f_X11_perform S a1 = some r) : okR S r := by
  have hS : i1 S S := i1_rf
  refine (?_ : jh (okR S) (f_X11_perform S a1)) _ h
  unfold f_X11_perform
  refine h_bp (fun x1 => ?_)
  refine h_bp (fun x2 => ?_)
  refine h_ite ?_ ?_
  · exact h_bpX (fun _ h => w_X11_days h)
  · refine h_ite ?_ ?_
    · refine h_bp (fun x3 => ?_)
      exact h_bpX (fun _ h => w_X11_paper h)
    · refine h_ite ?_ ?_
      · exact h_bpX (fun _ h => w_X11_ratify h)
      · refine h_ite ?_ ?_
        · exact h_bpX (fun _ h => w_X11_strike h)
        · refine h_bp (fun x4 => ?_)
          refine h_bp (fun x5 => ?_)
          exact h_bpX (fun _ h => w_X11_ban h)
theorem takeLatest_0 {S : CS} (h : S.1 20 = 0) : f_X3_takeLatest S = some (none, S) := if_pos h
theorem takeLatest_1 {S S2 : CS} {o : Option Int32} {nx n : Nat} (hnx : nx < 12) (hn : n < 12) (e19 : S.1 19 = nI nx) (e20 : S.1 20 = nI (n + 1)) (h : f_X3_takeLatest S = some (o, S2)) : o = some (nI ((nx + 11) % 12)) ∧ S2.1 19 = nI ((nx + 11) % 12) ∧ S2.1 20 = nI n := by
  unfold f_X3_takeLatest at h
  rw [if_neg (by rw [e20]; exact nI_ne0 (by omega) (by omega))] at h
  have e1 : ((ci S 20 ((S.1 20) - 1)).1 19) = nI nx := e19
  have e2 : nI nx + 12 - 1 - (nI nx + 12 - 1) / 12 * 12 = nI ((nx + 11) % 12) := by
    rw [show (12 : Int32) = nI 12 from rfl, nI_add, show (1 : Int32) = nI 1 from rfl, pk_sub (by omega), show nx + 12 - 1 = nx + 11 by omega]
    exact pk_rem (by omega) (by omega) (by omega)
  have h := (chk_in h).2
  injection h with h
  injection h with h1 h2
  subst h2
  have e3 : (ci (ci S 20 ((S.1 20) - 1)) 19 (((ci S 20 ((S.1 20) - 1)).1 19) + 12 - 1 - (((ci S 20 ((S.1 20) - 1)).1 19) + 12 - 1) / 12 * 12)).1 19 = nI ((nx + 11) % 12) := by
    show ((ci S 20 ((S.1 20) - 1)).1 19) + 12 - 1 - (((ci S 20 ((S.1 20) - 1)).1 19) + 12 - 1) / 12 * 12 = _
    rw [e1]; exact e2
  refine ⟨by rw [← h1, e3], e3, ?_⟩
  show (S.1 20) - 1 = nI n
  rw [e20]; exact nI_pred n
set_option maxRecDepth 100000 in
set_option maxHeartbeats 4000000 in
theorem x_back {g : KG} {a0 : Nat} {T : XS} {w0 : va_W} {r : Int32 × XS} (h0 : cF g a0 T w0) (h : fx_back T = some r) : ∀ l, kMx l yX11_back cX11_back 2 (some .int) rm_X11_back g [.ref a0] w0 (fun o w => o = some (.int r.1) ∧ cF g a0 r.2 w) 0 0 := by
  obtain ⟨S, dl⟩ := T
  obtain ⟨q, rg, DL, nx, rfl, rfl, hDL, hnx, e19, e20, hr⟩ := h0
  dsimp only at hDL e19 e20
  refine k_openx_i (own := "MarkChains") (by decide) rfl (Nat.le_of_ble_eq_true rfl) (fun X C hR => ?_)
  cases DL with
  | nil =>
    cases hDL
    have hT : f_X3_takeLatest S = some (none, S) := takeLatest_0 e20
    have hr0 : r = (-1, (S, [])) := (Option.some.inj h).symm
    subst hr0
    refine (?_ : jJ X g () (cx g q (rc g q rg :: []) S) 0 0 0 [(0, .ref (q 0))] [] (bp (f_X3_takeLatest S) (fun _ => some ()))) (by rw [hT]; rfl)
    refine r_aload_n (pc := 0) C dX11_back_0 0 rfl ?_
    refine xg_x_deeds (pc := 1) C kw_2_79 dX11_back_1 ?_
    refine r_cVX (Φ := fun r o w => f_X3_takeLatest S = some r ∧ pT g q rg [] r o w) (As := []) (st := []) (mc := 0) (ms := 0) (pc := 4) C (fun r h l => (c_X3_takeLatest h l).mono (fun _ _ hp => ⟨h, hp⟩)) kY_X3_takeLatest kw_5_210 kw_5_211 kw_5_209 rfl ⟨Nat.le_of_ble_eq_true rfl, Nat.le_of_ble_eq_true rfl⟩ rfl rfl ⟨Nat.le_of_ble_eq_true rfl, Nat.le_of_ble_eq_true rfl⟩ 34 rfl rfl rfl (Nat.le_of_ble_eq_true rfl) dX11_back_4 (fun r1 o w hw => ?_)
    obtain ⟨e1, e2, e3⟩ := hw
    rw [hT] at e1
    cases e1
    subst e2; subst e3
    refine r_astore_nN (pc := 7) C dX11_back_7 (lv' := [(0, .ref (q 0)), (1, .null)]) (by decide) [1, 0] rfl ?_
    refine r_aload_nN (pc := 8) C dX11_back_8 1 rfl ?_
    refine r_ifnonnullN (pc := 9) C dX11_back_9 ?_
    refine r_iconst (pc := 12) C dX11_back_12 (v := -1) (by decide) ?_
    exact fun _ => hR _ _ 13 _ ⟨rfl, q, rg, [], nx, rfl, rfl, rfl, hnx, e19, e20, hr⟩ dX11_back_13
  | cons d DL =>
    cases hDL
    have hlen : DL.length < 12 := by have := hr.1; simp at this; omega
    obtain ⟨r1, S2, hT, hU⟩ : ∃ r1 S2, f_X3_takeLatest S = some (r1, S2) ∧ bp (f_X11_undo S2 d.2.2) (fun S => some (S.1 20, (S, DL.map (fun d => d.2.2)))) = some r := by
      have h2 : bp (f_X3_takeLatest S) (fun r => bp (f_X11_undo r.2 d.2.2) (fun S => some (S.1 20, (S, DL.map (fun d => d.2.2))))) = some r := h
      cases hT : f_X3_takeLatest S with
      | none => rw [hT] at h2; cases h2
      | some z => rw [hT] at h2; exact ⟨z.1, z.2, rfl, h2⟩
    obtain ⟨S3, hS3, hr3⟩ : ∃ S3, f_X11_undo S2 d.2.2 = some S3 ∧ (S3.1 20, (S3, DL.map (fun d => d.2.2))) = r := by
      cases hS3 : f_X11_undo S2 d.2.2 with
      | none => rw [hS3] at hU; cases hU
      | some z => rw [hS3] at hU; exact ⟨z, rfl, Option.some.inj hU⟩
    obtain ⟨t1, t2, t3⟩ := takeLatest_1 hnx hlen e19 (by rw [e20, List.length_cons]) hT
    obtain ⟨rb1, rb2⟩ := ring_back hnx hr
    subst hr3
    refine (?_ : jJ X g () (cx g q (rc g q rg :: (dcs g d ++ DL.flatMap (dcs g))) S) 0 0 0 [(0, .ref (q 0))] [] (bp (f_X3_takeLatest S) (fun r => bp (f_X11_undo r.2 d.2.2) (fun _ => some ())))) (by rw [hT]; show bp (f_X11_undo S2 d.2.2) _ = _; rw [hS3]; rfl)
    refine r_aload_n (pc := 0) C dX11_back_0 0 rfl ?_
    refine xg_x_deeds (pc := 1) C kw_2_79 dX11_back_1 ?_
    refine r_cVX (Φ := fun r o w => f_X3_takeLatest S = some r ∧ pT g q rg (dcs g d ++ DL.flatMap (dcs g)) r o w) (As := []) (st := []) (mc := 0) (ms := 0) (pc := 4) C (fun r h l => (c_X3_takeLatest h l).mono (fun _ _ hp => ⟨h, hp⟩)) kY_X3_takeLatest kw_5_210 kw_5_211 kw_5_209 rfl ⟨Nat.le_of_ble_eq_true rfl, Nat.le_of_ble_eq_true rfl⟩ rfl rfl ⟨Nat.le_of_ble_eq_true rfl, Nat.le_of_ble_eq_true rfl⟩ 34 rfl rfl rfl (Nat.le_of_ble_eq_true rfl) dX11_back_4 (fun r2 o w hw => ?_)
    obtain ⟨e1, e2, e3⟩ := hw
    rw [hT] at e1
    cases e1
    subst t1
    have e4 : va_rf (rg (nI ((nx + 11) % 12)).toNatClampNeg) = .ref d.1 := by rw [nI_clamp (by omega), rb2]; rfl
    dsimp only at e3
    rw [e4] at e3
    subst e2; subst e3
    refine r_astore_n (pc := 7) C dX11_back_7 (lv' := [(0, .ref (q 0)), (1, .ref d.1)]) (by decide) [1, 0] rfl ?_
    refine r_aload_n (pc := 8) C dX11_back_8 1 rfl ?_
    refine r_ifnonnullR 14 (pc := 9) C dX11_back_9 (by decide) ?_
    refine r_aload_n (pc := 14) C dX11_back_14 0 rfl ?_
    refine r_aload_n (pc := 15) C dX11_back_15 1 rfl ?_
    refine r_cVX (Φ := fun r o w => f_X11_undo S2 d.2.2 = some r ∧ pU g q rg (DL.flatMap (dcs g)) r o w) (As := [.ref d.1]) (st := []) (mc := 0) (ms := 0) (pc := 16) C (fun r h l => (c_X11_undo h l).mono (fun _ _ hp => ⟨h, hp⟩)) kY_X11_undo kw_5_215 kw_0_36 kw_5_213 rfl ⟨Nat.le_of_ble_eq_true rfl, Nat.le_of_ble_eq_true rfl⟩ rfl rfl ⟨Nat.le_of_ble_eq_true rfl, Nat.le_of_ble_eq_true rfl⟩ 0 rfl rfl rfl (Nat.le_of_ble_eq_true rfl) dX11_back_16 (fun r2 o w hw => ?_)
    obtain ⟨e1, e2, q', f1, f2, f3⟩ := hw
    rw [hS3] at e1
    cases e1
    subst e2; subst f3
    refine r_sub (lv' := [(0, .ref (q 0))]) [0] rfl ?_
    rw [← f1]
    refine r_aload_n (pc := 19) C dX11_back_19 0 rfl ?_
    refine xg_x_deeds (q := q') (pc := 20) C kw_2_79 dX11_back_20 ?_
    refine xgN_de_size (q := q') (pc := 23) C knf_35 dX11_back_23 ?_
    obtain ⟨u1, u2⟩ := w_X11_undo hS3
    exact fun _ => hR _ _ 26 _ ⟨rfl, q', rg, DL, (nx + 11) % 12, f1, by rw [rc_q f2], rfl, Nat.mod_lt _ (by decide), u1.trans t2, u2.trans t3, rb1⟩ dX11_back_26
